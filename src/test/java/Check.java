/** Counts the checks that hold and prints those that do not. */
final class Check {
    private int passed;
    private int failed;

    void same(String what, Object got, Object due) {
        if (got != null && got.equals(due)) {
            passed++;
        } else {
            failed++;
            System.out.println(what + ": got " + got + ", due is " + due);
        }
    }

    int passed() {
        return passed;
    }

    int failed() {
        return failed;
    }
}
