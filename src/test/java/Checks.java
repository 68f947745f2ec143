/** Counts what is checked, and prints each answer that is not the one that is due. */
final class Checks {

    private int passed;
    private int failed;

    void same(String what, Object due, Object got) {
        if (due.equals(got)) {
            passed++;
        } else {
            failed++;
            System.out.println(what + " answered " + got + ", due is " + due);
        }
    }

    void isTrue(String what, boolean isSo) {
        same(what, true, isSo);
    }

    int passed() {
        return passed;
    }

    int failed() {
        return failed;
    }
}
