import java.util.function.Consumer;

/** Promise 3 at its edges, and what the Terms say of a TEXT and its FAULT. */
public final class TextEdgesTest {
    private static final Edges EDGES = new Edges("TextEdgesTest");
    private static final int MIN = Integer.MIN_VALUE;
    private static final int MAX = Integer.MAX_VALUE;

    public static void main(String[] args) {
        cell();
        tapeAndRefusals();
        empty();
        number();
        bytes();
        blanks();
        tokens();
        sums();
        ranges();
        refs();
        refNumbers();
        within();
        endsTooEarly();
        EDGES.finish(3);
    }

    private static void edge(String sentence, Runnable body) {
        EDGES.edge(3, sentence, body);
    }

    private static Consumer<Play> rowsOfBase(int n) {
        return x -> {
            for (int i = 0; i < n; i++) {
                x.row(0, i, 10 * (i + 1));
            }
        };
    }

    /** What each text, written into a GRID of 2 ROWS, is to answer. */
    private static void answers(int due, String... texts) {
        for (String text : texts) {
            Play.of(rowsOfBase(2)).write(0, 1, 2, text).is(due);
        }
    }

    private static void fault(int place, String... texts) {
        answers(-100 - place, texts);
    }

    private static void formula(String... texts) {
        answers(2, texts);
    }

    private static void cell() {
        edge("GRID 0 .. 2, row: its place from 0, columns 0 .. 2", () -> {
            for (int grid = 0; grid <= 2; grid++) {
                for (int column = 0; column <= 2; column++) {
                    Play x = new Play().rows(grid, 5, 6);
                    x.write(grid, 0, column, "7").is(1);
                    x.write(grid, 1, column, "8").is(1);
                    x.valueIs(grid, 0, column, 7).valueIs(grid, 1, column, 8);
                }
            }
        });
        edge("BAD (THE TAPE stays)", () -> {
            Probe.refused(Edges::busy, -2, x -> x.write(-1, 0, 0), x -> x.write(3, 0, 0), x -> x.write(4, 0, 0),
                    x -> x.write(0, -1, 0), x -> x.write(0, 3, 0), x -> x.write(0, 0, -1), x -> x.write(0, 0, 3),
                    x -> x.write(MIN, 0, 0), x -> x.write(MAX, 0, 0), x -> x.write(0, MIN, 0), x -> x.write(0, MAX, 0),
                    x -> x.write(0, 0, MIN), x -> x.write(0, 0, MAX));
            new Play().write(0, 0, 0).is(-2);
        });
        edge("the CONTENT of a CELL: its NOTE, and other CELLS, stay", () -> {
            Play x = Play.of(Edges::busy);
            x.write(0, 1, 1).is(2);
            x.told(0, 1, 1, 1).is(7);
            x.valueIs(0, 1, 1, 3).valueIs(0, 1, 0, 10).valueIs(0, 1, 2, 0).valueIs(0, 0, 1, 0);
        });
    }

    private static void tapeAndRefusals() {
        edge("THE TAPE is empty then (by a FAULT, too)", () -> {
            for (String text : new String[] {"", " ", "5", "=5", "x", "=", "=a9", "1234567"}) {
                Play x = Play.of(rowsOfBase(2));
                x.write(0, 0, 0, text);
                x.count(7).is(0);
                x.write(0, 0, 0).is(0);
            }
        });
        edge("a FAULT changes nothing but THE TAPE: no CHANGE, CLASHES stay", () -> {
            Consumer<Play> emptied = x -> {
                Edges.busy(x);
                x.write(0, 0, 0);
                x.merge();
            };
            for (String text : new String[] {"x", "=", "=1+a4", "9999999", "-"}) {
                for (int cell = 0; cell < 9; cell++) {
                    int row = cell / 3;
                    int column = cell % 3;
                    Probe.stays(emptied, x -> {
                        if (x.write(0, row, column, text).got > -100) {
                            throw x.wrong("due is a FAULT");
                        }
                    }, Probe.values());
                }
            }
        });
    }

    private static void empty() {
        edge("nothing: EMPTY", () -> answers(0, "", " ", "\n", " \n  \n", " ".repeat(40)));
        edge("EMPTY in place of a NUMBER, of a FORMULA", () -> {
            Play x = Play.of(rowsOfBase(1));
            for (String text : new String[] {"5", "=5", "=#"}) {
                x.write(0, 0, 0, text);
                x.write(0, 0, 0).is(0);
                x.told(0, 0, 0, 0).is(0);
                x.told(0, 0, 0, 3).is(0);
                x.valueIs(0, 0, 0, 0).prints(0, 0, 0, "");
            }
        });
    }

    private static void numberIs(String text, int due) {
        Play x = Play.of(rowsOfBase(1));
        x.write(0, 0, 0, text).is(1);
        x.told(0, 0, 0, 0).is(1);
        x.valueIs(0, 0, 0, due);
    }

    private static void number() {
        edge("maybe -, and NUMBER: that", () -> {
            numberIs("0", 0);
            numberIs("-0", 0);
            numberIs("-1", -1);
            numberIs("999999", 999999);
            numberIs("-999999", -999999);
            numberIs("000007", 7);
            numberIs("-000000", 0);
            numberIs("123456", 123456);
            numberIs("907890", 907890);
            numberIs(" - \n 12 ", -12);
        });
        edge("more than 6 digits are too long, 0 ahead too", () -> {
            answers(1, "123456", "000001", "-123456");
            formula("=123456", "=000000", "=-999999");
            fault(0, "1234567", "0000000", "0000001", "12345678901234567890123456789012345678", "2147483648");
            fault(1, "-1234567", "=1234567", " 1234567", "=0000000");
            fault(2, "=-1234567", "=(1234567)");
            fault(3, "=1+1234567", "=1*0000000");
        });
        edge("NUMBER: nothing else ahead of it or behind it, till the end", () -> {
            fault(0, "+5", "*5", "(5)", ")", ":", "$a1", "#", "a1", "total(a1:a1)", "x");
            fault(1, "--5", "-+5", "-=5", "-a1", "-(5)", "5-", "5+1", "5=", "5a", "5(", "5)", "5#", "5$", "5:", "5x");
            fault(2, "5 5", "-5-", "5\n-1", "12=1");
        });
    }

    private static void bytes() {
        edge("a byte alone: which begin a TOKEN that can stand there", () -> {
            for (int v = 0; v <= 255; v++) {
                boolean isBlank = v == 32 || v == 10;
                boolean isDigit = v >= '0' && v <= '9';
                Play x = Play.of(rowsOfBase(2));
                x.feed(1, v, 0, 0, 0, 0);
                x.write(0, 0, 0).is(isBlank ? 0 : isDigit ? 1 : v == '=' || v == '-' ? -101 : -100);
            }
        });
        edge("a byte behind =", () -> {
            for (int v = 0; v <= 255; v++) {
                boolean isDigit = v >= '0' && v <= '9';
                boolean isBegun = "-($abc\n ".indexOf(v) >= 0;
                Play x = Play.of(rowsOfBase(2));
                x.feed(2, '=', v, 0, 0, 0);
                x.write(0, 0, 0).is(isDigit || v == '#' ? 2 : isBegun ? -102 : -101);
            }
        });
        edge("a byte behind a ONE", () -> {
            for (int v = 0; v <= 255; v++) {
                boolean isDigit = v >= '0' && v <= '9';
                boolean isBlank = v == 32 || v == 10;
                boolean isSign = v == '+' || v == '-' || v == '*';
                Play x = Play.of(rowsOfBase(2));
                x.feed(3, '=', '1', v, 0, 0);
                x.write(0, 0, 0).is(isDigit || isBlank ? 2 : isSign ? -103 : -102);
            }
        });
        edge("a byte behind a column", () -> {
            for (int v = 0; v <= 255; v++) {
                boolean isBlank = v == 32 || v == 10;
                boolean isLetter = v >= 'a' && v <= 'z';
                Play x = Play.of(rowsOfBase(2));
                x.feed(3, '=', 'c', v, 0, 0);
                x.write(0, 0, 0).is(v == '1' || v == '2' ? 2 : isBlank ? -103 : isLetter ? -101 : -102);
            }
        });
    }

    private static void blanks() {
        edge("blanks (32, 10) may stand between, ahead and behind", () -> {
            formula(" =1", "= 1", "=1 ", "\n=\n1\n", "= 1 + 2 * 3 - 4", "= ( 1 )", "= - 1", "=$ a 1", "=$\na\n1",
                    "=total ( a 1 : $ b 2 )", "= # ", "  \n =  \n #  \n ");
            Play x = Play.of(rowsOfBase(2));
            x.write(0, 1, 1, " = total\n( $ a 1 :b  2) - 07 ").is(2);
            x.prints(0, 1, 1, "=total($a1:b2)-7");
        });
        edge("no other byte is a blank", () -> {
            fault(0, "\t", "\r", "\0", "\u00a0", "\u000b", "\u001f", "!");
            fault(1, "=\t1", "=\r1", "=\0", "=\u0085");
            fault(2, "=1\t", "=1\r\n", "=1\0", "5 \t");
        });
        edge("a blank within a TOKEN: it is two then", () -> {
            fault(1, "=to tal(a1:a1)", "=m ost(a1:a1)");
            fault(2, "5 0");
            fault(3, "=1 2");
            fault(28, " = total\n( $ a 1 :b  2) - 0 7 ");
        });
    }

    private static void tokens() {
        edge("WORDS: as many letters as stand there; a WORD that is none such", () -> {
            fault(0, "total", "a", "abc");
            fault(1, "=ab1", "=aa1", "=d1", "=z", "=abc", "=totals(a1:a1)", "=tot(a1:a1)", "=tota", "=mos(a1:a1)",
                    "=mosts(a1:a1)", "=leas(a1:a1)", "=man(a1:a1)", "=manyy(a1:a1)", "=atotal(a1:a1)", "=fotal(a1:a1)",
                    "=totalmost(a1:a1)", "=sum(a1:a1)", "=total" + "l".repeat(34));
            fault(3, "=1+ab1", "=1*d1", "=-(e1)");
        });
        edge("letters are a .. z alone", () -> {
            fault(1, "=A1", "=B1", "=Total(a1:a1)", "=`1", "={1", "=\u00e91");
            fault(2, "=aA1", "=a`1", "=a{1", "=a\u00e9");
        });
        edge("NUMBERS: as many digits as stand there; digits are 0 .. 9 alone", () -> {
            formula("=12", "=0", "=9", "=123456", "=1*23");
            fault(1, "=/", "=:", "=.5");
            fault(2, "=1/", "=1:", "=1.5", "=1,2", "=a11");
        });
        edge("behind a ONE only + - * ) or the end can stand", () -> {
            fault(2, "=1a1", "=2total(a1:a1)", "=1(1)", "=1#", "=1$a1", "=#1", "=#a1", "=##");
            fault(3, "=a1b1", "=a1(1)", "=a1$b1", "=a1#", "=a1:a2", "=a1=");
            fault(4, "=a1 2", "=(1)1", "=(1)(1)", "=(1)a1", "=(1))");
            fault(13, "=total(a1:a1)1", "=total(a1:a1)(1)", "=total(a1:a1)a1");
        });
    }

    private static void sums() {
        edge("= SUM; SUM: PART, then any of + PART, - PART; PART: ONE, then any of * ONE", () -> {
            formula("=1+1", "=1-1", "=1*1", "=1+1-1+1", "=1*1*1", "=1+-1", "=1--1", "=1*-1", "=-1*-1", "=-1", "=--1",
                    "=(1)", "=-(1)", "=(-1)", "=-a1", "=-$a1", "=(a1)", "=-#", "=-total(a1:a1)", "=(1+1)*(1-1)*a1");
            fault(1, "==", "==1", "=+1", "=*1", "=)", "=:");
            fault(2, "=()", "=(+1)", "=(*1)", "=-+1", "=-*1", "=-)", "=1=1", "=1)", "=1$", "=#=");
            fault(3, "=1++1", "=1+*1", "=1-+1", "=1**1", "=1*+1", "=1+)", "=1+:", "=(1:", "=(1=", "=(1$", "=a1)");
        });
        edge("any of them: as many as THE TAPE holds", () -> {
            formula("=1" + "+1".repeat(19), "=1" + "-1".repeat(19), "=1" + "*1".repeat(19), "=#" + "*#".repeat(19));
            Play x = Play.of(rowsOfBase(1));
            x.write(0, 0, 0, "=9" + "-1".repeat(19)).is(2);
            x.valueIs(0, 0, 0, -10).print(0, 0, 0, -1).is(40);
        });
    }

    private static void ranges() {
        edge("a WORD total, most, least, many with ( REF : REF )", () -> {
            for (String word : new String[] {"total", "most", "least", "many"}) {
                formula("=" + word + "(a1:a1)", "=" + word + "(c2:a1)", "=" + word + "($a1:b2)", "=" + word + "(a1:$b2)",
                        "=" + word + "(#:#)", "=2*" + word + "(a1:#)-1");
            }
        });
        edge("of a RANGE, the first TOKEN that can't stand there", () -> {
            fault(6, "=total)", "=total+1", "=total:", "=total1", "=total#", "=total$a1:a1)", "=total=", "=most a1:a1");
            fault(7, "=total()", "=total(1:a1)", "=total(-a1:a1)", "=total((a1):a1)", "=total(:a1)", "=total(d1:a1)",
                    "=total(total(a1:a1):a1)", "=total(total:a1)");
            fault(8, "=total(#)", "=total($#:a1)", "=total(a:a1)", "=many(a1)", "=many(a1+b1)");
            fault(9, "=total(a1)", "=total(a1,a1)", "=total(a1+a1)", "=total(a1=a1)", "=total(a1$a1)");
            fault(10, "=total(a1:)", "=total(a1:1)", "=total(a1:-a1)", "=total(a1:(a1))", "=total(a1::a1)",
                    "=total(a1:many(a1:a1))", "=total(a1:x1)");
            fault(12, "=total(a1:a1:a1)", "=total(a1:a1+1)", "=total(a1:a1,a1)", "=total(a1:a1(", "=total(a1:a1#)");
        });
        edge("of a RANGE, the NUMBER of a REF to a ROW that isn't there", () -> {
            fault(8, "=total(a0:a1)", "=total(a3:a1)", "=total(a9:a1)", "=total(a1234567:a1)");
            fault(11, "=total(a1:a0)", "=total(a1:a3)", "=total(a1:a9)");
        });
    }

    private static void refs() {
        edge("REF: maybe $, a WORD a, b, c and a NUMBER", () -> {
            formula("=a1", "=b1", "=c1", "=a2", "=$a1", "=$b2", "=$c2", "=a01", "=$c000002");
            fault(2, "=$$a1", "=$1", "=$(a1)", "=$total(a1:a1)", "=$d1", "=$ab1", "=$-a1", "=a$1", "=a(1)", "=a-1",
                    "=a#", "=a:1");
            fault(3, "=$a$1", "=$a-1", "=$a#", "=a b1");
        });
        edge("# (no $ ahead of it): a REF to no KEY", () -> {
            formula("=#", "=#+#", "=-#");
            fault(2, "=$#");
            fault(4, "=1+$#", "=#+$#");
            Play x = Play.of(rowsOfBase(1));
            x.write(0, 0, 0, "=#").is(2);
            x.told(0, 0, 0, 3).is(-5);
            x.prints(0, 0, 0, "=#");
        });
        edge("from then on of that ROW's KEY: it follows its ROW", () -> {
            Play x = Play.of(rowsOfBase(2));
            x.write(0, 0, 0, "=b1+$c2").is(2);
            x.row(0, 0, 5).is(3);
            x.prints(0, 1, 0, "=b2+$c3");
            x.move(0, 1, 2).is(10).prints(0, 2, 0, "=b3+$c2");
            x.drop(0, 0).is(5).prints(0, 1, 0, "=b2+$c1");
            x.drop(0, 0).is(20).prints(0, 0, 0, "=b1+#");
        });
    }

    private static void refNumbers() {
        edge("a NUMBER 1 .. 8, of a ROW that is there: its FAULT is at the NUMBER", () -> {
            for (int rows = 1; rows <= 8; rows++) {
                for (int place = 0; place <= 10; place++) {
                    int due = place >= 1 && place <= rows ? 2 : -102;
                    Play.of(rowsOfBase(rows)).write(0, 0, 0, "=a" + place).is(due);
                    Play.of(rowsOfBase(rows)).write(0, 0, 0, "=b00" + place).is(due);
                    Play.of(rowsOfBase(rows)).write(0, 0, 0, "=$c " + place).is(due == 2 ? 2 : -104);
                }
            }
            Play.of(rowsOfBase(8)).write(0, 0, 0, "=a999999").is(-102);
        });
        edge("the NUMBER of a REF that is too long", () -> {
            formula("=a000001");
            fault(2, "=a0000001", "=a1000000", "=a4294967297");
        });
        edge("of the ROWS of the GRID that is written", () -> {
            Play x = Play.of(rowsOfBase(8)).rows(1, 7).rows(2, 7, 8, 9);
            x.write(1, 0, 0, "=a2").is(-102);
            x.write(2, 0, 0, "=a4").is(-102);
            x.write(2, 0, 0, "=a3").is(2);
            x.write(0, 0, 0, "=a8").is(2);
        });
    }

    private static void within() {
        edge("a - or ( of a ONE within 4 others of these is none: within 3 it is one", () -> {
            formula("=----1", "=((((1))))", "=-(-(1))", "=(-(-1))", "=--((1))", "=((--a1))");
            fault(5, "=-----1", "=(((((1)))))", "=-(-(-1))", "=(-(-(1)))", "=----(1)", "=((((-1))))", "=-----", "=(((((");
            fault(7, "=1*----(1)", "=1-((((-1))))");
        });
        edge("those that stand beside each other aren't within each other", () -> {
            formula("=(1)+(1)+(1)+(1)+(1)+(1)", "=-1+-1+-1+-1+-1+-1", "=(((1)))*(((1)))", "=((((1)))-(((1))))",
                    "=-(((1)))--(((1)))", "=1*-1*-1*-1*-1*-1");
            fault(13, "=((((1)))-((((1)))))");
        });
        edge("the - of a SUM is none of these", () -> formula("=1-(1-(1-(1-(1-1))))", "=1-1-1-1-1-1", "=1-----1"));
        edge("the ( of a RANGE is none of these", () -> formula("=((((total(a1:a1)))))", "=----many(a1:b2)"));
    }

    private static void endsTooEarly() {
        edge("FAULT: the text's size, if it ends too early", () -> {
            String[] texts = {"-", "- ", " -\n", "=", "=\n", "= ", "=1+", "=1+ ", "=1-", "=1*", "=-", "=-  ", "=(", "=(1",
                "=(1+", "=((1)", "=(a1", "=$", "=a", "=$a", "=$a ", "=total", "=total ", "=total(", "=total(a", "=total(a1",
                "=total(a1:", "=total(a1:$", "=total(a1:b", "=total(a1:b2", "=total(a1:b2 \n", "=(total(a1:b2)", "=most(#",
                "=many(#:#", "=1+b"};
            for (String text : texts) {
                fault(text.length(), text);
            }
        });
        edge("FAULT: at the size of a full TAPE", () -> {
            formula("=1" + "+1".repeat(19));
            fault(40, "=11" + "+1".repeat(18) + "+", "=" + " ".repeat(39), "-" + "\n".repeat(39));
            fault(39, "=1" + "+1".repeat(18) + "+)", "=1" + "+1".repeat(18) + "+x");
        });
        edge("FAULT: of the first of several", () -> {
            fault(1, "=x+(", "=)+9999999");
            fault(2, "=a3+x", "=1(+", "=(*");
            fault(0, "x=", "5555555 x");
        });
    }
}
