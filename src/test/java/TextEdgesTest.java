/** Boundaries of the promises on the tape, on texts, their faults, and the goings in them. */
public final class TextEdgesTest extends Edges {
    private static final int BLANKS = 0x20202020;

    public static void main(String[] args) throws ReflectiveOperationException {
        new TextEdgesTest().runAll();
    }

    private static LastName taped(String text) {
        LastName x = town(2, 1, 1, 0);
        Check.put(x, text);
        return x;
    }

    /** So many bytes, of which only the first six matter. */
    private static LastName taped(int length) {
        return taped("fee 7;" + " ".repeat(length - 6));
    }

    private static int feedBlanks(LastName x) {
        return x.feed(BLANKS, BLANKS, BLANKS, BLANKS, BLANKS);
    }

    void promise5_theHighestByteOfTheFirstComesFirst() {
        for (int at = 0; at < 20; at++) {
            int[] w = {BLANKS, BLANKS, BLANKS, BLANKS, BLANKS};
            w[at / 4] |= 1 << 24 - at % 4 * 8;
            LastName x = new LastName();
            c.due("feed", x.feed(w[0], w[1], w[2], w[3], w[4]), 20);
            c.due("a ! among blanks", x.text(), -1);
            c.due("its place", x.fault(1), at);
        }
    }

    void promise5_bytesAre0To255() {
        for (int sign : new int[] {0, 1, 127, 128, 254, 255}) {
            LastName x = new LastName();
            x.feed(sign << 24 | sign << 16 | sign << 8 | sign, -1, Integer.MIN_VALUE, Integer.MAX_VALUE, 0);
            c.due("bytes", x.about(8), 20);
            x.text();
            c.due("fault", x.fault(0), 1);
            c.due("place", x.fault(1), 0);
        }
        int blank = (int) 0xA08A0A20L;
        LastName x = new LastName();
        x.feed(0x200A0A20, blank, BLANKS, BLANKS, BLANKS);
        x.text();
        c.due("128 above a blank is none", x.fault(1), 4);
        LastName y = new LastName();
        y.feed(0x200A200A, 0x0A20208A, BLANKS, BLANKS, BLANKS);
        y.text();
        c.due("128 above the other is none", y.fault(1), 7);
    }

    void promise5_howManyItHasUpTo300() {
        LastName x = new LastName();
        for (int i = 1; i <= 15; i++) {
            c.due("feed", feedBlanks(x), 20 * i);
            c.due("bytes", x.about(8), 20 * i);
        }
        c.due("the 16th", feedBlanks(x), -1);
        c.due("bytes", x.about(8), 300);
    }

    void promise5_noneComeIfThereWouldBeMoreThan300() {
        for (int length : new int[] {261, 279, 280}) {
            LastName x = taped(length);
            c.due("feed behind " + length, feedBlanks(x), length + 20);
            c.due("bytes", x.about(8), length + 20);
        }
        for (int length : new int[] {281, 282, 299, 300}) {
            kept("feed behind " + length, () -> taped(length), x -> x.feed(-1, -1, -1, -1, -1), -1);
        }
    }

    void promise6_from0ToWhatItHas() {
        for (int length : new int[] {20, 21, 299, 300}) {
            for (int n : new int[] {0, 1, length - 1, length}) {
                LastName x = taped(length);
                c.due("end " + n + " of " + length, x.end(n), n);
                c.due("bytes", x.about(8), n);
                c.due("one more", x.end(n + 1), -1);
                c.due("the same", x.end(n), n);
            }
        }
    }

    void promise6_nothingIsDoneIfItHasNotSoMany() {
        for (int length : new int[] {6, 20, 299, 300}) {
            keptOfEach("end", () -> taped(length), beside(0, length), (x, n) -> x.end(n), -1);
        }
    }

    void promise6_anEmptyTapeHas0() {
        LastName x = new LastName();
        c.due("end 0", x.end(0), 0);
        keptOfEach("end", LastName::new, beside(0, 0), (y, n) -> y.end(n), -1);
        x.feed(0, 0, 0, 0, 0);
        x.end(0);
        c.due("cut to none", x.about(8), 0);
        c.due("end 1", x.end(1), -1);
        c.due("nothing is left of it", x.text(), 0);
    }

    void promise6_theFirstNAlone() {
        LastName x = taped("fee 1;!");
        x.end(6);
        feedBlanks(x);
        c.due("bytes", x.about(8), 26);
        c.due("what was cut off doesn't come back", x.text(), 0);
        LastName y = taped("fee 1;!");
        y.end(7);
        c.due("a byte more", y.text(), -1);
        c.due("its place", y.fault(1), 6);
        LastName z = taped("fee 1;!");
        z.end(5);
        c.due("a byte less", z.text(), -1);
        c.due("its place", z.fault(1), 5);
    }

    void promise7_anEmptyTapeIsAText() {
        LastName x = new LastName();
        c.due("text", x.text(), 0);
        c.due("texts", x.about(3), 1);
        c.due("fault", x.fault(0), 0);
        c.due("again", x.text(), 1);
        reads(" ");
        reads("\n");
        reads(" ".repeat(300));
    }

    private static LastName withTexts(int n, String tape) {
        LastName x = town(2, 1, 1, 0);
        for (int i = 0; i < n; i++) {
            Check.read(x, "go 0 by 0;fee " + (i + 5) + ";");
        }
        Check.put(x, tape);
        return x;
    }

    void promise7_theFourthIs3AndTheFifthNone() {
        LastName x = new LastName();
        for (int i = 0; i < 4; i++) {
            c.due("text", Check.read(x, "fee " + i + ";"), i);
            c.due("texts", x.about(3), i + 1);
        }
        c.due("the fifth", Check.read(x, "fee 4;"), -1);
        c.due("texts", x.about(3), 4);
    }

    void promise7_theTapeStaysIfThereAre4() {
        for (String tape : new String[] {"", "go 1 by 0;", "fee", "!", "fee 7;" + " ".repeat(294)}) {
            kept("a fifth of " + tape.trim(), () -> withTexts(4, tape), LastName::text, -1);
        }
        LastName x = withTexts(4, "fee 77;go 1 by 0;");
        x.text();
        c.due("bytes", x.about(8), 17);
        x.back();
        c.due("it can be read then", x.text(), 0);
    }

    void promise7_theTapeIsEmptyThen() {
        for (String tape : new String[] {"", " ", "fee 1;", "fee", "!", "fee 7;" + " ".repeat(294), "!".repeat(300)}) {
            LastName x = withTexts(3, tape);
            x.text();
            c.due("bytes behind " + tape.trim(), x.about(8), 0);
            c.due("end 1", x.end(1), -1);
            c.due("feed", feedBlanks(x), 20);
        }
    }

    void promise7_aFaultyOneIsNoText() {
        LastName x = withTexts(3, "go 1 by 0;go 1 by 0;fee 9;take 1;fee");
        x.by(2);
        c.due("text", x.text(), -1);
        c.due("texts", x.about(3), 3);
        c.due("the text", x.about(4), 2);
        c.due("by 3", x.by(3), false);
        c.due("gone 3", x.gone(3), -1);
        c.due("gone 2", x.gone(2), 1);
        c.due("its fee", x.of(0, 1), 7);
        c.due("the next has its number", Check.read(x, "take 2;fee 8;"), 3);
        c.due("and nothing of it", x.gone(3), 0);
        x.by(3);
        x.go(1, 0);
        c.due("its fee", x.of(1, 1), 8);
    }

    void promise7_aTextOf300Bytes() {
        reads("fee" + " ".repeat(295) + "7;");
        reads(" ".repeat(294) + "fee 7;");
        faulty(" ".repeat(299) + "!", 1, 299);
        faulty(" ".repeat(297) + "fee", 1, 300);
        faulty("fee" + " ".repeat(297), 1, 300);
        LastName x = ruled(town(1, 0, 1, 0), "fee 1" + "+1".repeat(147) + ";");
        x.go(0, 0);
        c.due("148 ones", x.of(0, 1), 148);
    }

    /** Each has as much to reckon as can be; faulty ones between take nothing of it away. */
    void promise7_eachOfFourCanHave300Bytes() {
        LastName x = town(1, 0, 1, 0);
        for (int i = 0; i < 4; i++) {
            c.due("a faulty one", Check.read(x, "fee 1" + "+1".repeat(147) + "!"), -1);
            c.due("its place", x.fault(1), 299);
            c.due("text", Check.read(x, "fee " + i + "+1".repeat(147) + ";"), i);
        }
        for (int i = 3; i >= 0; i--) {
            int paid = x.of(0, 1);
            x.by(i);
            x.go(0, 0);
            c.due("its fee", x.of(0, 1) - paid, 147 + i);
        }
    }

    void promise7_blanksAre32And10Alone() {
        for (int sign : new int[] {32, 10}) {
            String b = "" + (char) sign;
            reads(b + "fee" + b + "1" + b + "+" + b + "1" + b + ";" + b);
        }
        for (int sign : new int[] {0, 9, 11, 13, 31, 33, 128 + 10, 160}) {
            faulty("fee" + (char) sign + "1;", 1, 3);
        }
    }

    void promise7_lettersAreThoseFromAToZ() {
        for (char letter : new char[] {'a', 'z', 'A', 'Z'}) {
            faulty("fee" + letter + " 1;", 1, 0);
            faulty(letter + "fee 1;", 1, 0);
        }
        for (int sign : new int[] {64, 91, 96, 123, 128 + 'a', 128 + 'Z'}) {
            faulty("fee" + (char) sign + " 1;", 1, 3);
        }
    }

    void promise7_lettersGreatAndSmallAreUnlike() {
        faulty("Fee 1;", 1, 0);
        faulty("feE 1;", 1, 0);
        faulty("fee Who;", 1, 4);
        faulty("fee whO;", 1, 4);
        faulty("go 1 By 1;", 1, 5);
        faulty("bars 1=1 OR 1=1;", 1, 9);
        faulty("bars Not 1=1;", 1, 5);
    }

    void promise7_lettersOneBehindTheOtherAreOneToken() {
        faulty("feewho;", 1, 0);
        faulty("fe e 1;", 1, 0);
        faulty("fee wh o;", 1, 4);
        faulty("bars 1=1 andnot 1=1;", 1, 9);
        reads("bars 1=1and not 1=1or 1=1;");
        for (String word : new String[] {"take", "fee", "bars", "go"}) {
            faulty(word.substring(0, word.length() - 1) + " 1;", 1, 0);
            faulty(word.substring(1) + " 1;", 1, 0);
            faulty(word + "s 1;", 1, 0);
        }
    }

    void promise7_digitsOneBehindTheOtherAreOneNumber() {
        reads("go0by1;");
        reads("go 7by2;");
        faulty("fee 1 2;", 1, 6);
        faulty("fee 12who;", 1, 6);
        faulty("fee who12;", 1, 7);
        faulty("fee 1:;", 1, 5);
        reads("fee 1/1;");
        LastName x = ruled(town(1, 0, 1, 0), "fee 908;");
        x.go(0, 0);
        c.due("908", x.of(0, 1), 908);
    }

    void promise7_theLongestSign() {
        for (String sign : new String[] {"<=", ">=", "<", ">", "=", "#"}) {
            reads("bars 1" + sign + "1;");
            reads("bars 1 " + sign + " 1;");
            faulty("bars 1" + sign + "=1;", sign.equals("<") || sign.equals(">") ? 0 : 1,
                sign.equals("<") || sign.equals(">") ? -1 : 6 + sign.length());
        }
        faulty("bars 1< =1;", 1, 8);
        faulty("bars 1> =1;", 1, 8);
        faulty("bars 1<>1;", 1, 7);
        faulty("bars 1=<1;", 1, 7);
        faulty("bars 1=>1;", 1, 7);
        faulty("bars 1<", 1, 7);
        faulty("bars 1>=", 1, 8);
    }

    void promise8_noneAheadOfAny() {
        LastName x = new LastName();
        for (int what : new int[] {-1, 0, 1, 2}) {
            c.due("fault " + what, x.fault(what), -1);
        }
        x.feed(-1, 0, 0, 0, 0);
        x.person(true);
        c.due("a tape is no text yet", x.fault(0), -1);
        c.due("its place", x.fault(1), -1);
        x.back();
        c.due("nor is an image", x.fault(0), -1);
    }

    void promise8_noneForOthers() {
        for (int what : beside(0, 1)) {
            LastName x = new LastName();
            Check.read(x, "fee");
            c.due("fault " + what, x.fault(what), -1);
            Check.read(x, "fee 1;");
            c.due("fault " + what, x.fault(what), -1);
        }
        kept("fault 2", Edges::busy, x -> x.fault(2), -1);
    }

    void promise8_ofTheLatestThatWasRead() {
        LastName x = new LastName();
        Check.read(x, " !");
        c.due("fault", x.fault(0), 1);
        c.due("place", x.fault(1), 1);
        Check.read(x, "fee 1;");
        c.due("0 without", x.fault(0), 0);
        c.due("NONE without", x.fault(1), -1);
        Check.read(x, "take 10000;");
        c.due("fault", x.fault(0), 2);
        c.due("place", x.fault(1), 5);
        Check.put(x, "!");
        c.due("what isn't read doesn't count", x.fault(0), 2);
        Check.read(x, "");
        Check.read(x, "");
        Check.read(x, "go 9 by 0;");
        Check.read(x, "");
        Check.read(x, "fee 1;fee 2;");
        c.due("nor a fifth", x.fault(0), 0);
        c.due("nor its place", x.fault(1), -1);
    }

    /** A TEXT is cut behind each TOKEN: only behind a CLAUSE it can end. */
    void promise8_fault1OfTheEndAtTheLength() {
        String all = "take ( 1 + name ) * - 2 ; fee 1 / who ; bars not 1 < 2 and 1 = 1 or in # 0 ; go 1 by 2 ;";
        for (int i = 0; i <= all.length(); i++) {
            if (i == all.length() || all.charAt(i) == ' ') {
                boolean whole = all.charAt(i - 1) == ';';
                faulty(all.substring(0, i), whole ? 0 : 1, whole ? -1 : i);
                String more = all.substring(0, i) + " \n ";
                faulty(more, whole ? 0 : 1, whole ? -1 : i + 3);
            }
        }
    }

    /** In the place of each TOKEN of a TEXT one that is none. */
    void promise8_fault1OfWhatIsNone() {
        String[] all = "take ( 1 + name ) * - 2 ; fee 1 / who ; bars not 1 < 2 and 1 = 1 or in # 0 ; go 1 by 2 ;".split(" ");
        for (String none : new String[] {"!", "$", "&", "\t", "" + (char) 0, "" + (char) 255}) {
            StringBuilder before = new StringBuilder();
            for (String token : all) {
                faulty(before + none, 1, before.length());
                faulty(before + none + token + " ;", 1, before.length());
                before.append(token).append(' ');
            }
            faulty(before + none, 1, before.length());
        }
    }

    void promise8_fault1OfWhatCantStandThere() {
        String[] clauseless = {";", "by 1;", "or", "and", "not", "place", "who;", "1;", "(", ")", "+", "-", "=", "<=", "name"};
        for (String text : clauseless) {
            faulty(text, 1, 0);
            faulty("fee 1;" + text, 1, 6);
        }
        for (String one : new String[] {";", ")", "+1", "*1", "/", "%", "<", "=", "#", "not 1", "or", "and", "by", "fee", "take", "go", "bars", "foo"}) {
            faulty("fee " + one + ";", 1, 4);
            faulty("fee 1+" + one + ";", 1, 6);
            faulty("fee 1*" + one + ";", 1, 6);
            faulty("fee (" + one + ";", 1, 5);
            faulty("fee -" + one + ";", 1, 5);
        }
        for (String sign : new String[] {"(", ")", "<", "=", "1", "who", "not", "or", "and", "by", "fee"}) {
            faulty("fee 1 " + sign + " 1;", 1, 6);
            faulty("take name " + sign + " 1;", 1, 10);
        }
        for (String sign : new String[] {";", ")", "or", "and", "not", "1", "(", "by"}) {
            faulty("bars 1 " + sign + " 1;", 1, 7);
            faulty("bars (1" + (sign.equals(")") ? "" : " ") + sign + " 1;", 1, sign.equals(")") ? 9 : 8);
        }
    }

    void promise8_fault1OfAsks() {
        faulty("bars 1;", 1, 6);
        faulty("bars ;", 1, 5);
        faulty("bars (1=1);", 1, 7);
        faulty("bars 1=1=1;", 1, 8);
        faulty("bars 1=1 or;", 1, 11);
        faulty("bars 1=1 and;", 1, 12);
        faulty("bars or 1=1;", 1, 5);
        faulty("bars 1=1 and or 1=1;", 1, 13);
        faulty("bars 1=1 not 1=1;", 1, 9);
        faulty("bars 1=not 1;", 1, 7);
        faulty("bars -not 1=1;", 1, 6);
        faulty("bars not;", 1, 8);
        reads("bars not not 1=1 and not 1=1 or not 1=1 and 1=1;");
    }

    void promise8_fault1OfGo() {
        faulty("go who by 0;", 1, 3);
        faulty("go -1 by 0;", 1, 3);
        faulty("go (1) by 0;", 1, 3);
        faulty("go by 0;", 1, 3);
        faulty("go 1 0;", 1, 5);
        faulty("go 1 at 0;", 1, 5);
        faulty("go 1 by;", 1, 7);
        faulty("go 1 by who;", 1, 8);
        faulty("go 1 by 0+0;", 1, 9);
        faulty("go 1+1 by 0;", 1, 4);
        faulty("go 1 by 0 go 1 by 0;", 1, 10);
    }

    void promise8_fault2OfANumberAbove9999() {
        for (String clause : new String[] {"take ", "fee ", "bars 1=", "fee 1+", "fee (", "fee -", "bars "}) {
            boolean open = clause.endsWith("(");
            String behind = open ? ");" : clause.equals("bars ") ? "=1;" : ";";
            reads(clause + "9999" + behind);
            reads(clause + "0" + behind);
            reads(clause + "0000009999" + behind);
            faulty(clause + "10000" + behind, 2, clause.length());
            faulty(clause + "00010000" + behind, 2, clause.length());
            faulty(clause + "4294967297" + behind, 2, clause.length());
            faulty(clause + "18446744073709551617" + behind, 2, clause.length());
            faulty(clause + "9".repeat(200), 2, clause.length());
        }
    }

    void promise8_fault2OfGoAndBy() {
        reads("go 0 by 0;");
        reads("go 7 by 2;");
        reads("go 007 by 00002;");
        faulty("go 8 by 0;", 2, 3);
        faulty("go 9999 by 0;", 2, 3);
        faulty("go 10000 by 0;", 2, 3);
        faulty("go 4294967296 by 0;", 2, 3);
        faulty("go 0 by 3;", 2, 8);
        faulty("go 0 by 7;", 2, 8);
        faulty("go 0 by 10000;", 2, 8);
        faulty("go 8 by 3;", 2, 3);
    }

    void promise8_fault3OfThe9thThatIsOpen() {
        reads("fee " + "(".repeat(8) + "1" + ")".repeat(8) + ";");
        faulty("fee " + "(".repeat(9) + "1" + ")".repeat(9) + ";", 3, 12);
        reads("fee " + "-".repeat(8) + "1;");
        faulty("fee " + "-".repeat(9) + "1;", 3, 12);
        reads("bars " + "not ".repeat(8) + "1=1;");
        faulty("bars " + "not ".repeat(9) + "1=1;", 3, 37);
        reads("bars not not (-(-(-1)))=1;");
        reads("bars not not not ((-(-1)))=1;");
        faulty("bars not not not ((-(--1)))=1;", 3, 22);
        faulty("bars not not not ((-(-(1))))=1;", 3, 22);
        faulty("take " + "-(".repeat(4) + "-1", 3, 13);
        faulty("take " + "(-".repeat(4) + "(1", 3, 13);
        reads("take " + "(-".repeat(4) + "1" + ")".repeat(4) + ";");
    }

    void promise8_fault3OnlyOfWhatIsStillOpen() {
        String eight = "(".repeat(8) + "1" + ")".repeat(8);
        reads("fee " + eight + "+" + eight + "*" + eight + "-" + eight + ";");
        faulty("fee " + eight + "+(" + eight, 3, 30);
        faulty("fee " + eight + "--" + eight, 3, 30);
        reads("fee 1-1-1-1-1-1-1-1-1-1-1;");
        reads("fee -1+-1+-1+-1+-1+-1+-1+-1+-1+-1;");
        reads("fee -1*-1*-1*-1*-1*-1*-1*-1*-1*-1;");
        reads("fee -(1)-(1)*-(1)-(1)-(1)-(1)-(1)-(1)-(1)-(1);");
        reads("bars " + eight + "=" + eight + ";");
        faulty("bars not 1=" + eight + ";", 3, 18);
        faulty("bars not " + eight + "=1;", 3, 16);
        reads("bars not 1=1 and " + eight + "=1;");
        faulty("bars 1=1 and (" + eight + ")=1;", 3, 21);
        faulty("bars 1=1 or (" + eight + ")=1;", 3, 20);
        faulty("bars 1=1 and 1=(" + eight + ");", 3, 23);
        reads("bars not 1=1 or " + eight + "=1;");
        reads("bars " + "not ".repeat(8) + "1=1 and " + "not ".repeat(8) + "1=1 or " + "not ".repeat(8) + "1=1;");
    }

    void promise8_fault4OfTheSecond() {
        reads("take 1;fee 1;");
        reads("fee 1;take 1;");
        faulty("take 1;take 1;", 4, 7);
        faulty("fee 1;fee 1;", 4, 6);
        faulty("take 1; fee 1;\n take", 4, 16);
        faulty("fee 1;bars 1=1;take 1;go 1 by 1;fee", 4, 32);
        reads("bars 1=1;bars 1=1;go 1 by 1;go 1 by 1;");
        LastName x = new LastName();
        c.due("once in a text", Check.read(x, "fee 1;take 1;"), 0);
        c.due("and once in the next", Check.read(x, "fee 1;take 1;"), 1);
    }

    void promise8_fault5OfANameOfOtherClauses() {
        String[] names = {"place", "name", "own", "who", "gate", "size", "hour", "in"};
        for (String name : names) {
            boolean ofTake = !name.equals("in");
            boolean ofGoing = !name.equals("place") && !name.equals("own");
            faulty("take " + name + ";", ofTake ? 0 : 5, ofTake ? -1 : 5);
            faulty("take 1+(" + name + ");", ofTake ? 0 : 5, ofTake ? -1 : 8);
            faulty("fee " + name + ";", ofGoing ? 0 : 5, ofGoing ? -1 : 4);
            faulty("fee -" + name + ";", ofGoing ? 0 : 5, ofGoing ? -1 : 5);
            faulty("bars " + name + "=1;", ofGoing ? 0 : 5, ofGoing ? -1 : 5);
            faulty("bars not 1=" + name + ";", ofGoing ? 0 : 5, ofGoing ? -1 : 11);
            faulty("go " + name + " by 1;", 1, 3);
        }
        faulty("take name;fee own;", 5, 14);
        faulty("fee in;take in;", 5, 12);
    }

    void promise8_fault6OfThe21stClause() {
        for (String clause : new String[] {"go0by0;", "bars 1=1;"}) {
            reads(clause.repeat(19));
            reads(clause.repeat(20));
            faulty(clause.repeat(21), 6, clause.length() * 20);
            faulty(clause.repeat(20) + " \n" + clause, 6, clause.length() * 20 + 2);
            faulty(clause.repeat(20) + clause.substring(0, 2) + (clause.startsWith("go") ? "" : "rs"), 6, clause.length() * 20);
        }
        reads("take 1;fee 1;" + "go0by0;".repeat(18));
        faulty("take 1;" + "go0by0;".repeat(19) + "fee 1;", 6, 140);
        faulty("fee 1;" + "go0by0;".repeat(19) + "take 1;", 6, 139);
    }

    void promise8_theFirstTokenAndOfOneTheLeast() {
        faulty("fee 1;" + "go0by0;".repeat(19) + "fee 2;", 4, 139);
        faulty("take 1;" + "go0by0;".repeat(19) + "take", 4, 140);
        faulty("go0by0;".repeat(20) + "goes", 1, 140);
        faulty("go0by0;".repeat(20) + "!", 1, 140);
        faulty("go0by0;".repeat(20) + ";", 1, 140);
        faulty("go0by0;".repeat(21) + "!", 6, 140);
        faulty("fee 1 10000;", 1, 6);
        faulty("fee 10000 !", 2, 4);
        faulty("fee ! 10000", 1, 4);
        faulty("fee 1 place;", 1, 6);
        faulty("fee place !", 5, 4);
        faulty("fee 1;fee place;", 4, 6);
        faulty("fee place;fee 1;", 5, 4);
        faulty("take " + "(".repeat(9) + "10000", 3, 13);
        faulty("take " + "(".repeat(8) + "10000(", 2, 13);
        faulty("take " + "(".repeat(8) + "in(", 5, 13);
        faulty("take 1" + "(".repeat(9), 1, 6);
        faulty("go 10000 to", 2, 3);
    }

    void promise9_falseForOthers() {
        for (int n = 0; n <= 4; n++) {
            int texts = n;
            keptOfEach("by, of " + n, () -> withTexts(texts, ""), beside(-1, n - 1), (x, t) -> bit(x.by(t)), 0);
        }
    }

    void promise9_fromNoneToTheLast() {
        for (int n = 0; n <= 4; n++) {
            for (int text = -1; text < n; text++) {
                LastName x = withTexts(n, "");
                c.due("at first none", x.about(4), -1);
                c.due("by " + text + " of " + n, x.by(text), true);
                c.due("the text", x.about(4), text);
                x.go(0, 0);
                c.due("its fee", x.of(0, 1), text < 0 ? 1 : text + 5);
                c.due("none again", x.by(-1), true);
                x.go(0, 0);
                c.due("without a fee", x.of(0, 1), text < 0 ? 2 : text + 6);
            }
        }
    }

    void promise9_aTextThatIsReadDoesntRuleYet() {
        LastName x = withTexts(1, "");
        c.due("the text", x.about(4), -1);
        x.by(0);
        Check.read(x, "fee 50;");
        c.due("the text", x.about(4), 0);
        x.go(0, 0);
        c.due("its fee", x.of(0, 1), 5);
    }

    void promise10_noneForOthers() {
        for (int n = 0; n <= 4; n++) {
            int texts = n;
            int[] others = n == 0 ? new int[] {-1, 0, 1} : beside(0, n - 1);
            keptOfEach("gone, of " + n, () -> withTexts(texts, ""), others, (x, t) -> x.gone(t), -1);
        }
        LastName x = withTexts(4, "");
        x.by(2);
        c.due("the text is none that is told", x.gone(-1), -1);
        c.due("the last", x.gone(3), 1);
    }

    void promise10_withoutAnyNoneAreDone() {
        kept("of an empty text", () -> withRead(""), x -> x.gone(0), 0);
        kept("of rules alone", () -> withRead("fee 3;take 1;bars 1=1;"), x -> x.gone(0), 0);
        kept("of such as can't be", () -> withRead("go 2 by 0;go 3 by 0;go 7 by 0;go 0 by 1;go 0 by 2;"), x -> x.gone(0), 0);
        kept("of such as are barred", () -> ruled(town(2, 1, 1, 0), "go 0 by 0;go 1 by 0;bars 1=1;"), x -> x.gone(0), 0);
    }

    private static LastName withRead(String text) {
        LastName x = town(2, 1, 1, 0);
        Check.read(x, text);
        return x;
    }

    void promise10_whatCantBeIsLeftOut() {
        LastName x = withRead("go 2 by 0;go 0 by 0;go 3 by 0;go 2 by 0;go 0 by 0;go 1 by 1;go 1 by 0;");
        c.due("out, in, out", x.gone(0), 3);
        c.due("2 has 0", x.of(2, 0), 0);
        c.due("1 left his", x.heap(0, 0), 1);
        c.due("0 went once", x.of(0, 2), 1);
        c.due("2 went once", x.of(2, 2), 1);
    }

    void promise10_all20() {
        LastName x = withRead("go0by0;".repeat(20));
        c.due("twenty", x.gone(0), 20);
        c.due("they count", x.of(0, 2), 20);
        LastName y = withRead("go0by0;".repeat(19) + "go2by0;");
        c.due("the last one too", y.gone(0), 20);
        c.due("2 has it", y.of(2, 0), 0);
    }

    void promise10_theTextRulesThem() {
        LastName x = withRead("go 0 by 0;go 1 by 0;go 2 by 0;take 0-place;fee 100;");
        Check.read(x, "fee 9;bars who=1;");
        c.due("without the text", x.gone(0), 3);
        c.due("the latest", x.of(2, 0), 1);
        c.due("the fee of none", x.of(0, 1), 1);
        LastName y = withRead("go 0 by 0;go 1 by 0;go 2 by 0;take 0-place;fee 100;");
        Check.read(y, "fee 9;bars who=1;");
        y.by(1);
        c.due("by another", y.gone(0), 2);
        c.due("its fee", y.of(0, 1), 9);
        LastName z = withRead("go 0 by 0;go 1 by 0;go 2 by 0;take 0-place;fee 100;");
        z.by(0);
        c.due("by itself", z.gone(0), 3);
        c.due("the oldest", z.of(2, 0), 0);
        c.due("its fee", z.of(0, 1), 100);
    }

    void promise10_byLotTheyDraw() {
        LastName x = town(3, 0, 0, 1);
        Check.read(x, "go 0 by 0;go 1 by 0;go 2 by 0;go 0 by 0;");
        c.due("all", x.gone(0), 4);
        c.due("5 mod 3: the latest", x.of(0, 0), 2);
        c.due("one draw", x.about(10), 998);
    }
}
