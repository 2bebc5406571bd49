/** Programs that several tests use. */
final class Samples {
    /** Doubles its argument 20: 7 nodes, one record of LAM 1 read twice, value 40. */
    static final String DOUBLE = "APP LAM:3 T_INT ADD VAR:0 VAR:0 LIT:20";

    /** The variables of five doublings: VAR:5 is 1 and takes one dereference, VAR:0 is 32 and takes 63. */
    static final String DOUBLINGS = "LETBOX BOX:2 LIT:1"
        + " LETBOX BOX:2 ADD VAR:0 VAR:0 LETBOX BOX:2 ADD VAR:0 VAR:0 LETBOX BOX:2 ADD VAR:0 VAR:0"
        + " LETBOX BOX:2 ADD VAR:0 VAR:0 LETBOX BOX:2 ADD VAR:0 VAR:0 ";

    /** 64 dereferences, the most that any limit allows. */
    static final String DEREFS_64 = DOUBLINGS + "ADD VAR:0 VAR:5";

    /** Would take 66 dereferences. */
    static final String DEREFS_66 = DOUBLINGS + "ADD VAR:0 VAR:4";

    /** VAR:3 makes two records at each reading, VAR:0 sixteen; four records are made before. */
    static final String RECORD_MAKERS = "LETBOX BOX:2 LETPAIR:3 PAIR LIT:1 LIT:2 LIT:1"
        + " LETBOX BOX:2 ADD VAR:0 VAR:0 LETBOX BOX:2 ADD VAR:0 VAR:0 LETBOX BOX:2 ADD VAR:0 VAR:0 ";

    /** 32 records, the most that any limit allows, and 25 dereferences; its value is 14. */
    static final String RECORDS_32 = RECORD_MAKERS + "ADD VAR:0 ADD VAR:1 VAR:2";

    /** Would make 34 records. */
    static final String RECORDS_34 = RECORD_MAKERS + "ADD VAR:0 ADD VAR:1 ADD VAR:2 VAR:3";

    /** Seven calls, each inside the argument of the last and behind six more sums: 42 frames, value 42. */
    static final String FRAMES_42 = "LETBOX BOX:2 LAM:1 T_INT ADD ADD ADD ADD ADD ADD VAR:0"
        + " LIT:1 LIT:1 LIT:1 LIT:1 LIT:1 LIT:1"
        + " APP VAR:0 APP VAR:0 APP VAR:0 APP VAR:0 APP VAR:0 APP VAR:0 APP VAR:0 LIT:0";

    /**
     * Four times four calls of a function with three sums: 48 frames, value 48, and 32 nodes. No program that
     * needs more frames was found.
     */
    static final String FRAMES_48 = "LETBOX BOX:2 LAM:2 T_FUN:1 T_INT T_INT LAM:1 T_INT"
        + " APP VAR:1 APP VAR:1 APP VAR:1 APP VAR:1 VAR:0"
        + " APP APP VAR:0 APP VAR:0 LAM:1 T_INT ADD ADD ADD VAR:0 LIT:1 LIT:1 LIT:1 LIT:0";

    /** The greatest argument of each kind 1..17; ANY where none refuses. */
    private static final int ANY = -1;
    private static final int[] GREATEST = {ANY, ANY, ANY, ANY, 2, 2, 31, ANY, ANY, 3, ANY, ANY, 3, ANY, ANY, 3, 2, ANY};

    private Samples() {
    }

    /** Whether the node table allows the argument for a kind in 1..17. */
    static boolean fits(int kind, int arg) {
        return GREATEST[kind] == ANY || (arg >= 0 && arg <= GREATEST[kind]);
    }

    /** The argument that a node keeps: 0 where the node table says it is ignored. */
    static int kept(int kind, int arg) {
        return GREATEST[kind] == ANY && kind != GradedUsage.LIT ? 0 : arg;
    }

    /** A sum of the numbers 0 .. frames that is nested to the left: needs just that many frames. */
    static String leftSum(int frames) {
        StringBuilder text = new StringBuilder();
        for (int k = 0; k < frames; k++) {
            text.append("ADD ");
        }
        for (int k = 0; k <= frames; k++) {
            text.append("LIT:").append(k).append(' ');
        }
        return text.toString();
    }
}
