/** Texts of towns that several tests use. */
final class Towns {
    static final String FIRST = "p0;p0;p2;p3;h0,0,1,2,5;h0,1,3,3,0;h1,0,1,4,4;h1,1,3,0,7;h2,0,2,1,5;h2,2,5,5,1;"
        + "h3,0,1,1,9;h3,2,5,0,2;l0,3;n3;c4;f5;z2;";

    private Towns() {
    }

    /** Persons of these kinds who are all at place 0 in hour 0. */
    static String gathering(String rest, int... kinds) {
        StringBuilder text = new StringBuilder(persons(kinds));
        for (int i = 0; i < kinds.length; i++) {
            text.append('h').append(i).append(",0,0,0,0;");
        }
        return text.append(rest).toString();
    }

    /** Persons of these kinds, all at home. */
    static String persons(int... kinds) {
        StringBuilder text = new StringBuilder();
        for (int kind : kinds) {
            text.append('p').append(kind).append(';');
        }
        return text.toString();
    }
}
