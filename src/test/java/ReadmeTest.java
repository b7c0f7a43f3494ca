/** The calls of README.md, with what it says that they answer: whoever changes one has to change the other. */
public final class ReadmeTest {
    public static void main(String[] args) {
        byCalls();
        byText();
        Check.end();
    }

    private static void byCalls() {
        CordSeals x = new CordSeals();
        x.reign(1100, 0b11);
        int d = x.die(0, 1090, 1180);
        x.crack(d, 1120);
        int s = x.seal(d, 0, 0, 5, 0b1);
        Check.same("its first possible year", x.dated(s, 0), 1120);
        Check.same("no fake", x.dated(s, 3), 0);
        CordSeals y = Check.loaded("r110001;d01090-1180;k01120;w00050");
        y.clearText();
        Check.same("the same collection as a text", Check.picture(y), Check.picture(x));
    }

    private static void byText() {
        CordSeals y = new CordSeals();
        Check.write(y, "r110001;d01090-1180;k01120;w00050");
        Check.same("errorPosition", y.errorPosition(), CordSeals.NONE);
        Check.same("load", y.load(), 0);
        Check.same("the last possible year of seal 0", y.dated(0, 1), 1180);
        Check.same("the years that charter 2 would have", y.ifHung(0, 2), 61);
        Check.same("nothing changes", y.about(5), 0);
        Check.same("hang", y.hang(0, 2), 1);
        Check.same("undo", y.undo(), 0);
        Check.same("it hangs there no more", y.ofSeal(0, 5), CordSeals.NONE);
        Check.noSuch(y, "there is no seal 1", () -> y.hang(1, 2));
    }
}
