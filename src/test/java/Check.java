/** What the tests share: dues by promises, towns by a text, rows by their numbers. */
final class Check {
    /** A kind each: gaps 5, 7, 6, 6, 2, 9; colds 2, 4, 1, 3; thread 5. */
    static final String ALL_KINDS = "n24135 b725 s813 q284 c934 t467 w902";
    /** Nothing crosses here, ever. */
    static final String STILL = "n00001b000";

    private static String heading = "";
    private static int wrong = 0;
    private static int asked = 0;

    private Check() {
    }

    /**
     * What is due from here on belongs to a promise, by these words of the document (SentencesTest looks
     * whether they stand there, and whether each word of the document is held by a test).
     */
    static void promise(int number, String words) {
        heading = "promise " + number + ", \"" + words + "\": ";
    }

    static void due(String call, long got, long want) {
        asked++;
        if (got != want) {
            wrong++;
            System.out.println(heading + call + " answered " + got + ", due is " + want);
        }
    }

    static void end(String name) {
        System.out.println(name + ": " + asked + " answers, " + wrong + " not as due");
        if (wrong != 0) {
            System.exit(1);
        }
    }

    static void write(BolsterBeds x, int t, String text) {
        due("text(" + t + ", " + text.length() + ")", x.text(t, text.length()), text.length());
        for (int i = 0; i < text.length(); i++) {
            x.put(t, i, text.charAt(i));
        }
    }

    static BolsterBeds town(String text) {
        BolsterBeds x = new BolsterBeds();
        write(x, 0, text);
        due("fault of " + text, x.fault(0), BolsterBeds.NONE);
        if (x.town(0) <= 0) {
            due("town of " + text, 0, 1);
        }
        return x;
    }

    /** A town behind so many nights, each a deed. */
    static BolsterBeds after(int nights, String text) {
        BolsterBeds x = town(text);
        for (int d = 0; d < nights; d++) {
            due("night " + d + " of " + text, x.night() >= 0 ? 1 : 0, 1);
        }
        return x;
    }

    static void row(BolsterBeds x, int r, int... values) {
        due("row(" + r + ", " + values.length + ")", x.row(r, values.length), values.length);
        for (int i = 0; i < values.length; i++) {
            x.lay(r, i, values[i]);
        }
    }

    /** The row stands with just these numbers. */
    static void rowIs(BolsterBeds x, String what, int r, int... values) {
        for (int i = 0; i < values.length; i++) {
            due(what + ": at(" + r + ", " + i + ")", x.at(r, i), 1);
            due(what + ": place " + i, x.asked(), values[i]);
        }
        due(what + ": behind its end", x.at(r, values.length), BolsterBeds.FINDING);
    }

    /** What a bed tells. */
    static void bed(BolsterBeds x, int i, int what, int want) {
        due("bed(" + i + ", " + what + ")", x.bed(i, what), 1);
        due("bed(" + i + ", " + what + ") told", x.asked(), want);
    }

    static void chance(BolsterBeds x, String call, int got, long upper, long lower) {
        due(call, got, 1);
        due(call + " upper", x.upper(), upper);
        due(call + " lower", x.lower(), lower);
    }

    /** A refusal by a finding: it is the latest, counted once more. */
    static void finding(BolsterBeds x, String call, java.util.function.IntSupplier made, int finding) {
        int before = x.findings(finding);
        due(call, made.getAsInt(), BolsterBeds.FINDING);
        due(call + ": finding()", x.finding(), finding);
        due(call + ": findings(" + finding + ")", x.findings(finding), before + 1);
    }

    /** A refusal that changes nothing, by whichever answer. */
    static void refused(BolsterBeds x, String call, java.util.function.IntSupplier made, int want) {
        long digest = x.digest();
        int told = x.asked();
        long upper = x.upper();
        long lower = x.lower();
        int finding = x.finding();
        int findings = allFindings(x);
        due(call, made.getAsInt(), want);
        due(call + " leaves digest()", x.digest(), digest);
        due(call + " leaves asked()", x.asked(), told);
        due(call + " leaves upper()", x.upper(), upper);
        due(call + " leaves lower()", x.lower(), lower);
        if (want != BolsterBeds.FINDING) {
            due(call + " leaves finding()", x.finding(), finding);
            due(call + " leaves findings()", allFindings(x), findings);
        } else {
            due(call + " is one finding", allFindings(x), findings + 1);
        }
    }

    /** A refusal by a finding that changes nothing else. */
    static void refusedBy(BolsterBeds x, String call, java.util.function.IntSupplier made, int finding) {
        finding(x, call, () -> {
            int[] got = {0};
            refused(x, call, () -> {
                got[0] = made.getAsInt();
                return got[0];
            }, BolsterBeds.FINDING);
            return got[0];
        }, finding);
    }

    private static int allFindings(BolsterBeds x) {
        int sum = 0;
        for (int f = 1; f <= 5; f++) {
            sum += x.findings(f);
        }
        return sum;
    }
}
