/**
 * The section 'Terms' sentence by sentence, where a sentence names a boundary: the smallest and the
 * largest that is taken, the next ones beyond, an empty one, a full one. Each run's first line is the
 * document's sentence.
 */
public final class TermsBoundsTest {
  private static final Checks CHECKS = new Checks();

  public static void main(String[] args) {
    pupilsAndWorks();
    worksNumbers();
    words();
    everyByte();
    texts();
    grammar();
    manyLists();
    parentheses();
    faults();
    holesTwiceRings();
    values();
    out();
    lost();
    lists();
    listsOnTheWay();
    capPass();
    days();
    marks();
    opening();
    handing();
    marking();
    peers();
    appeals();
    ranges();
    rangesWithMinus();
    CHECKS.end();
  }

  private static void told(String run) {
    Told.run(CHECKS, run);
  }

  private static void pupilsAndWorks() {
    told("""
        PUPILS have numbers from 0 on (6 at most)
        group 0 0 -> -1
        pupil -> 0
        pupil -> 1
        pupil -> 2
        pupil -> 3
        pupil -> 4
        group 5 0 -> -1
        pupil -> 5
        pupil -> -6
        count 0 -> 6
        group 6 0 -> -1
        """);
    told("""
        each a GROUP (0 .. 5, its own number at first)
        6 x pupil
        group 0 5 -> 0
        group 0 0 -> 5
        group 0 6 -> -1
        group 0 -1 -> -1
        group 0 0 -> 0
        group 5 5 -> 5
        group 5 0 -> 5
        group 3 4 -> 3
        """);
    told("""
        WORKS have numbers from 0 on (10 at most)
        pupil
        markOf 0 0 4 -> -1
        work 0 1 0 0 -> 0
        8 x work 0 1 0 0
        markOf 0 9 4 -> -1
        work 0 1 0 0 -> 9
        work 0 1 0 0 -> -6
        count 1 -> 10
        markOf 0 9 4 -> 0
        markOf 0 10 4 -> -1
        """);
    told("""
        names wa, wb, .. wj in this order
        marks 1 2 3 4 5 6 7 8 9 10
        rules 'a=wa;b=wb;c=wc;d=wd;e=we;f=wf;g=wg;h=wh;i=wi;j=wj;' -> 10
        value 0 0 -> 1/1
        value 0 1 -> 2/1
        value 0 2 -> 3/1
        value 0 3 -> 4/1
        value 0 4 -> 5/1
        value 0 5 -> 6/1
        value 0 6 -> 7/1
        value 0 7 -> 8/1
        value 0 8 -> 9/1
        value 0 9 -> 10/1
        rules 'a=wk;' -> -2000
        """);
    told("""
        TICKS go on from 0 (100000 at most)
        count 3 -> 0
        tick 100001 -> -6
        tick 99999 -> 99999
        tick 2 -> -6
        tick 1 -> 100000
        tick 1 -> -6
        count 3 -> 100000
        """);
  }

  private static void worksNumbers() {
    told("""
        a KIND (0 SINGLE, 1 GROUPED, 2 TRIED, 3 SHOWN)
        2 x pupil
        group 1 0 -> 1
        work -1 9 0 0 -> -1
        work 4 9 0 0 -> -1
        work 0 9 0 0 -> 0
        work 1 9 0 0 -> 1
        work 2 9 0 0 -> 2
        work 3 9 0 0 -> 3
        hand 0 0 -> 1
        hand 0 0 -> 1
        hand 0 1 -> 2
        hand 0 2 -> 1
        hand 0 2 -> -3
        mark 0 2 1 -> 1
        hand 0 2 -> 1
        hand 0 3 -> 1
        mark 0 3 1 -> -3
        """);
    told("""
        a MOST (1 .. 20)
        pupil
        work 0 0 0 0 -> -4
        work 0 1 0 0 -> 0
        work 0 20 0 0 -> 1
        work 0 21 0 0 -> -6
        hand 0 0
        mark 0 0 2 -> -6
        mark 0 0 1 -> 1
        hand 0 1
        mark 0 1 21 -> -6
        mark 0 1 20 -> 1
        """);
    told("""
        a DUE (a TICK, 0 .. 100000)
        pupil
        work 0 9 -1 1 -> -4
        work 0 9 0 1 -> 0
        work 0 9 100000 1 -> 1
        work 0 9 100001 1 -> -6
        work 0 9 99999 1 -> 2
        tick 1
        hand 0 0 -> 1
        markOf 0 0 3 -> 1
        tick 99999 -> 100000
        hand 0 1 -> 1
        markOf 0 1 3 -> 0
        hand 0 2 -> 1
        markOf 0 2 3 -> 1
        """);
    told("""
        a LESS (0 .. 100)
        pupil
        work 0 9 0 -1 -> -4
        work 0 9 0 0 -> 0
        work 0 9 0 100 -> 1
        work 0 9 0 101 -> -6
        work 0 9 0 99 -> 2
        tick 1
        hand 0 0
        mark 0 0 9
        markOf 0 0 -> 9/1
        hand 0 1
        mark 0 1 9
        markOf 0 1 -> 0/1
        hand 0 2
        mark 0 2 9
        markOf 0 2 -> 9/100
        """);
  }

  private static void words() {
    told("""
        NUMBERS (one to four digits)
        pupil
        sum '0' -> 0/1
        sum '9' -> 9/1
        sum '0000' -> 0/1
        sum '0010' -> 10/1
        sum '9999' -> 9999/1
        rules 'a=10000;' -> -1002
        rules 'a=00000;' -> -1002
        rules 'a=;' -> -1002
        """);
    told("""
        NAMES (one to four letters a to z)
        rules 'a=1;' -> 1
        rules 'z=1;' -> 1
        rules 'aaaa=1;' -> 1
        rules 'zzzz=zzzy;zzzy=1;' -> 2
        rules 'aaaaa=1;' -> -1000
        rules 'a=zzzzz;' -> -1002
        rules '=1;' -> -1000
        rules 'A=1;' -> -1000
        """);
    told("""
        SIGNS = ; + - * / ( ) , each alone
        pupil
        sum '((1))' -> 1/1
        rules 'a==1;' -> -1002
        rules 'a=1;;' -> -1004
        rules 'a=1++1;' -> -1004
        rules 'a=max(1,,1);' -> -1008
        """);
    told("""
        Blanks (32) part WORDS and are else nothing
        pupil
        rules '   a   =   12   ;   ' -> 1
        value 0 0 -> 12/1
        rules 'a=1 2;' -> -1004
        rules 'a b=1;' -> -1002
        rules 'a=be st1(1);' -> -1005
        rules 'a=1234 5;' -> -1007
        """);
    told("""
        A WORD is as long as it can be
        pupil
        rules 'best=1;' -> -1000
        rules 'bes=1;bess=2;a=bess;' -> 3
        value 0 2 -> 2/1
        sum 'best2(1,2,3)' -> 5/1
        sum '12+1' -> 13/1
        rules 'a=1;b=aa;' -> -2001
        rules 'a=wa1;' -> -1004
        rules 'a=1wa;' -> -1003
        """);
    told("""
        digits or letters that are more than four in a row are no WORD
        rules 'a=12345678;' -> -1002
        rules 'abcdefgh=1;' -> -1000
        rules 'a=1+12345;' -> -1004
        rules 'a=drop12345(1);' -> -1006
        rules 'a=abcd1234;' -> -1006
        rules 'a=maxim(1);' -> -1002
        """);
    told("""
        The first n bytes of the TEXT: a WORD that is cut there is as long as it is then
        text 'a=12345;' -> 20
        rules 6 0 -> -1006
        text 'a=12345;' -> 20
        rules 7 0 -> -1002
        text 'abcde=1;' -> 20
        rules 4 0 -> -1004
        text 'abcde=1;' -> 20
        rules 5 0 -> -1000
        text 'a=1;bcdef' -> 20
        rules 4 0 -> 1
        text 'a=1;#' -> 20
        rules 4 0 -> 1
        """);
  }

  /** All 256 bytes, as the first word and behind a number. */
  private static void everyByte() {
    for (int b = 0; b < 256; b++) {
      char c = (char) b;
      boolean letter = c >= 'a' && c <= 'z';
      boolean digit = c >= '0' && c <= '9';
      int first = letter ? 1 : c == ' ' ? -1001 : -1000;
      CHECKS.due("byte " + b + " first", Checks.rules(new CourseHouse(), c + "=1;"), first);
      // Behind "a=1" a text may go on with a sign or a digit, and a blank is nothing.
      boolean goesOn = digit || c == ' ' || c == '+' || c == '-' || c == '*' || c == '/';
      int then = c == ';' ? 1 : goesOn ? -1004 : -1003;
      CHECKS.due("byte " + b + " then", Checks.rules(new CourseHouse(), "a=1" + c), then);
    }
  }

  private static void texts() {
    told("""
        TEXT is bytes (600 at most)
        count 4 -> 0
        28 x text 0 0 0 0 0
        text 0 0 0 0 0 -> 580
        text 0 0 0 0 0 -> 600
        text 0 0 0 0 0 -> -6
        count 4 -> 600
        rules 601 0 -> -6
        rules 600 0 -> -1000
        count 4 -> 0
        """);
    String full = "a=1" + Checks.times(298, "+1") + ";";
    told("A TEXT of 600 bytes\npupil\nrules '" + full + "' -> 1\nvalue 0 0 -> 299/1");
    told("600 bytes that end too early\nrules '" + full.replace(';', ' ') + "' -> -1600\ncount 18 -> 1");
    told("600 blanks\nrules '" + Checks.times(600, " ") + "' -> -1600");
    told("""
        A TEXT is one RULE or more
        rules 0 0 -> -1000
        rules ' ' -> -1001
        rules 'a=1;' -> 1
        rules 'a=1;b=2;' -> 2
        """);
    String twelve = "a=1;b=1;c=1;d=1;e=1;f=1;g=1;h=1;i=1;j=1;k=1;l=1;";
    told("12 RULES at most\nrules '" + twelve + "' -> 12\nname 11 -> 12\nname 12 -> -1"
        + "\nrules '" + twelve + " ' -> 12\nrules '" + twelve + "m=1;' -> -1048"
        + "\nrules '" + twelve + "  m=1;' -> -1050\nrules '" + twelve + " mmmmm' -> -1049"
        + "\nrules '" + twelve + ";' -> -1048\ncount 2 -> 12");
  }

  private static void grammar() {
    told("""
        RULE: NAME = SUM ;
        rules 'a' -> -1001
        rules 'a=' -> -1002
        rules 'a=1' -> -1003
        rules 'a 1;' -> -1002
        rules 'a=1 b=2;' -> -1004
        rules '1=1;' -> -1000
        """);
    told("""
        SUM: PRODUCT, then any many times + or - PRODUCT
        pupil
        sum '7' -> 7/1
        sum '7+1' -> 8/1
        sum '7-1-2+3' -> 7/1
        rules 'a=+1;' -> -1002
        rules 'a=-1;' -> -1002
        rules 'a=1+;' -> -1004
        """);
    told("""
        PRODUCT: PART, then any many times * PART or / NUMBER
        pupil
        sum '7*2/7/2*5' -> 5/1
        rules 'a=1*;' -> -1004
        rules 'a=*1;' -> -1002
        rules 'a=1/a;' -> -1004
        rules 'a=1/(1);' -> -1004
        """);
    told("""
        the NUMBER behind / is not 0
        pupil
        sum '1/1' -> 1/1
        sum '1/9999' -> 1/9999
        sum '1/0001' -> 1/1
        sum '0/1' -> 0/1
        rules 'a=1/0;' -> -1004
        rules 'a=1/ 0000;' -> -1005
        rules 'a=1/10000;' -> -1004
        """);
    told("""
        cap, pass ( SUM , NUMBER )
        pupil
        sum 'cap(9999,9999)' -> 9999/1
        sum 'cap(1,0)' -> 0/1
        sum 'pass(0,0)' -> 1/1
        sum 'pass(9999,9999)' -> 1/1
        rules 'a=cap(1);' -> -1007
        rules 'a=cap(1,1,1);' -> -1009
        rules 'a=pass(1,b);' -> -1009
        rules 'a=pass();' -> -1007
        rules 'a=cap(1,10000);' -> -1008
        """);
    told("""
        best, drop NUMBER ( LIST )
        pupil
        sum 'best 0(1)' -> 0/1
        sum 'best 9999(1)' -> 1/1
        sum 'drop 0(1)' -> 1/1
        sum 'drop 9999(1)' -> 0/1
        rules 'a=best(1);' -> -1006
        rules 'a=drop b(1);' -> -1007
        rules 'a=best 10000(1);' -> -1007
        """);
  }

  private static void manyLists() {
    for (String list : new String[] {"max", "min", "mean", "best 1", "drop 1"}) {
      int begin = 3 + list.length();
      String ten = "1" + Checks.times(9, ",1");
      told("LIST: SUM, then any many times , SUM (10 SUMS at most): " + list
          + "\nrules 'a=" + list + "(1);' -> 1"
          + "\nrules 'a=" + list + "(" + ten + ");' -> 1"
          + "\nrules 'a=" + list + "(" + ten + " ,1);' -> -" + (1000 + begin + 20)
          + "\nrules 'a=" + list + "(" + ten + ",' -> -" + (1000 + begin + 19)
          + "\nrules 'a=" + list + "();' -> -" + (1000 + begin));
    }
    String[] kept = {"max", "min", "mean", "best", "drop", "cap", "pass"};
    for (String name : kept) {
      told("The NAMES max, min, mean, best, drop, cap, pass are none but as told there: " + name
          + "\nrules '" + name + "=1;' -> -1000"
          + "\nrules 'a=1; " + name + "=1;' -> -1005"
          + "\nrules 'a=" + name + ";' -> -" + (1002 + name.length())
          + "\nrules '" + name.substring(1) + "=1;' -> 1");
    }
    for (char c = 'a'; c <= 'k'; c++) {
      told("a RULE's NAME is none of wa to wj: w" + c + "\nrules 'w" + c + "=1;' -> " + (c == 'k' ? 1 : -1000)
          + "\nrules 'x" + c + "=1;' -> 1\nrules 'w" + c + c + "=1;' -> 1");
    }
  }

  private static void parentheses() {
    String eight = "a=" + Checks.times(8, "(");
    String close = Checks.times(8, ")");
    told("Parentheses are at most 8 deep\nrules '" + eight + "1" + close + ";' -> 1"
        + "\nrules '" + eight + "(1)" + close + ";' -> -1010"
        + "\nrules '" + eight + "1+ (1)" + close + ";' -> -1013"
        + "\nrules '" + eight + "1-(1)" + close + ";' -> -1012"
        + "\nrules '" + eight + "1*(1)" + close + ";' -> -1012"
        + "\nrules '" + eight + "1/1*1*(1)" + close + ";' -> -1016"
        + "\nrules '" + eight + "1*1+1*1" + close + ";' -> 1"
        + "\nrules 'a=(((((((1)))))))+" + eight.substring(2) + "1" + close + ";' -> 1");
    told("those of LISTS, cap and pass, too\nrules '" + eight + "max(1)" + close + ";' -> -1013"
        + "\nrules '" + eight + "min(1)" + close + ";' -> -1013"
        + "\nrules '" + eight + "mean(1)" + close + ";' -> -1014"
        + "\nrules '" + eight + "best 1(1)" + close + ";' -> -1016"
        + "\nrules '" + eight + "drop 1(1)" + close + ";' -> -1016"
        + "\nrules '" + eight + "cap(1,1)" + close + ";' -> -1013"
        + "\nrules '" + eight + "pass(1,1)" + close + ";' -> -1014"
        + "\nrules 'a=max(min(mean(best 1(drop 0(cap(pass((1),1),1))))));' -> 1"
        + "\nrules 'a=max(min(mean(best 1(drop 0(cap(pass(((1)),1),1))))));' -> -1039");
    told("A parenthesis that ends makes room\nrules 'a=max((((((((1))))))),(((((((2))))))));' -> 1"
        + "\nrules 'a=max((((((((1))))))),((((((((2)))))))));' -> -1029");
  }

  private static void faults() {
    told("""
        FAULT: the first byte that is no WORD
        rules '#a=1;' -> -1000
        rules 'a#=1;' -> -1001
        rules 'a= #;' -> -1003
        rules 'a=1;  #' -> -1006
        rules 'a=;#' -> -1002
        """);
    told("""
        FAULT: the first of five letters or digits
        rules 'abcde' -> -1000
        rules 'a=1;  abcde=1;' -> -1006
        rules 'a=1/  12345;' -> -1006
        rules 'a=;12345' -> -1002
        """);
    told("""
        FAULT: the length of the TEXT if it ends too early
        rules 0 0 -> -1000
        rules 'a=1   ' -> -1006
        rules 'a=max(1,' -> -1008
        rules 'a=best' -> -1006
        rules 'a=1;b' -> -1005
        text 'a=1 + 1;' -> 20
        rules 5 0 -> -1005
        """);
    told("""
        -1000 less the FAULT's place
        rules ';' -> -1000
        rules 'a;' -> -1001
        rules 'a=1;b=1;c=1;d=1;e=1;f=1;g=1;h=1;i=1;j=1;k=1;l' -> -1045
        count 18 -> 3
        """);
  }

  private static void holesTwiceRings() {
    told("""
        HOLE: a NAME in a SUM that is neither a RULE's nor that of a WORK that there is
        rules 'a=wa;' -> -2000
        work 0 1 0 0 -> 0
        rules 'a=wa;' -> 1
        rules 'a=wa;b=wb;' -> -2001
        work 0 1 0 0 -> 1
        rules 'a=wa;b=wb;' -> 2
        rules 'c=a;' -> -2000
        rules 'c=d;d=1;' -> 2
        rules 'a=1;b=1;c=1;d=1;e=1;f=1;g=1;h=1;i=1;j=1;k=1;l=m;' -> -2011
        """);
    told("""
        TWICE: two RULES of one NAME
        rules 'a=1;a=1;' -> -3001
        rules 'a=1;aa=1;' -> 2
        rules 'a=1;b=1;c=1;d=1;e=1;f=1;g=1;h=1;i=1;j=1;k=1;a=1;' -> -3011
        """);
    told("""
        RING: a RULE that hangs on itself
        work 0 1 0 0
        rules 'a=a;' -> -5
        rules 'a=b;b=a;' -> -5
        rules 'a=b;b=c;c=d;d=e;e=f;f=g;g=h;h=i;i=j;j=k;k=l;l=a;' -> -5
        rules 'a=b;b=c;c=d;d=e;e=f;f=g;g=h;h=i;i=j;j=k;k=l;l=wa;' -> 12
        hangs 0 0 -> 1
        hangs 11 0 -> 1
        need 0 0 0 -> -5
        need 0 11 0 -> -5
        """);
    told("""
        RULES hang on all that these hang on: as far as it can go
        10 x work 0 1 0 0
        rules 'a=b;b=c;c=wa;d=wb;e=wc;f=wd;g=we;h=wf;i=wg;j=wh;k=wi;l=wj;' -> 12
        need 0 3 0 -> 1
        need 1 4 0 -> 1
        need 2 5 0 -> 1
        need 3 6 0 -> 1
        need 4 7 0 -> 1
        need 5 8 0 -> 1
        need 6 9 0 -> 1
        need 7 10 0 -> 1
        hangs 0 9 -> 0
        need 8 11 0 -> 1
        hangs 0 9 -> 1
        hangs 11 8 -> 0
        need 9 0 0 -> -5
        need 9 11 0 -> -5
        rules 'b=1;c=b;a=wa;d=wb;e=wc;f=wd;g=we;h=wf;i=wg;j=wh;k=wi;l=b+c+a;' -> -5
        rules 'a=wa;b=wb;c=wc;d=wb;e=wc;f=wd;g=we;h=wf;i=wg;j=wh;k=wi;l=wj;' -> 12
        hangs 2 9 -> 1
        """);
    told("""
        RING: of all RULES and WORKS there can be
        10 x work 0 1 0 0
        rules 'a=1;b=1;c=1;d=1;e=1;f=1;g=1;h=1;i=1;j=1;k=1;l=1;' -> 12
        need 0 3 0 -> 1
        need 1 4 0 -> 1
        need 2 5 0 -> 1
        need 3 6 0 -> 1
        need 4 7 0 -> 1
        need 5 8 0 -> 1
        need 6 9 0 -> 1
        need 7 10 0 -> 1
        need 8 11 0 -> 1
        need 9 0 0 -> 1
        rules 'a=b;b=c;c=wa;d=wb;e=wc;f=wd;g=we;h=wf;i=wg;j=wh;k=wi;l=wj;' -> -5
        rules 'a=b;b=c;c=wa;d=wb;e=wc;f=wd;g=we;h=wf;i=wg;j=wh;k=wi;l=9;' -> 12
        """);
    told("""
        a WORK hangs on the RULE that it NEEDS
        3 x work 0 1 0 0
        rules 'a=wa;b=wb;c=wc;' -> 3
        hangs 0 1 -> 0
        need 0 1 0 -> 1
        hangs 0 1 -> 1
        hangs 0 2 -> 0
        need 1 2 0 -> 1
        hangs 0 2 -> 1
        need 2 0 0 -> -5
        need 1 -1 0 -> 1
        hangs 0 2 -> 0
        need 2 0 0 -> 1
        """);
  }

  private static void values() {
    told("""
        numbers from -1000000000 to 1000000000
        pupil
        sum '1000*1000*1000' -> 1000000000/1
        sum '1000*1000*1000+1' -> LOST
        sum '1000*1000*1000*2' -> LOST
        sum '0-1000*1000*1000' -> -1000000000/1
        sum '0-1000*1000*1000-1' -> LOST
        sum '(0-1000*1000*1000)*1' -> -1000000000/1
        sum '(0-1000*1000*1000)*2' -> LOST
        sum '1000*1000*1000/7' -> 1000000000/7
        sum '1000*1000*500+1/2' -> LOST
        sum '1000*1000*500-1/2' -> 999999999/2
        sum '1/2-1000*1000*500' -> -999999999/2
        sum '0-1/2-1000*1000*500' -> LOST
        """);
    told("""
        the lower one above 0 (and 1000000000 at most)
        pupil
        sum '1/71/2251/6257' -> 1/999999997
        sum '1/1000/1000/1000' -> 1/1000000000
        sum '1/43/2949/7886' -> LOST
        sum '1/9999/9999/9999' -> LOST
        sum '0-1/1000/1000/1000' -> -1/1000000000
        sum '0-1/43/2949/7886' -> LOST
        sum '1/2/1000/1000/1000*2' -> LOST
        sum '2/2/1000/1000/1000' -> 1/1000000000
        """);
    told("""
        fractions, in least terms
        pupil
        sum '6/4' -> 3/2
        sum '4/4' -> 1/1
        sum '0/7' -> 0/1
        sum '1/2-1/2' -> 0/1
        sum '0-6/4' -> -3/2
        sum '9999/9999' -> 1/1
        sum '1/6+1/3' -> 1/2
        sum '43/43/2949/7886' -> 1/23255814
        """);
    told("""
        A NUMBER is itself
        pupil
        sum '0' -> 0/1
        sum '9999' -> 9999/1
        sum '0099' -> 99/1
        """);
    told("""
        All are reckoned from left to right; each on the way must be within bounds
        pupil
        sum '1000*1000*1000+1-1' -> LOST
        sum '1000*1000*1000-1+1' -> 1000000000/1
        sum '0-1000*1000*1000-1+1' -> LOST
        sum '1000*1000*1000*2/2' -> LOST
        sum '1000*1000*1000/2*2' -> 1000000000/1
        sum '1/1000/1000/1000/2*2' -> LOST
        sum '1*2/1000/1000/1000/2' -> 1/1000000000
        sum '9-4-3' -> 2/1
        sum '9/4*3' -> 27/4
        """);
  }

  private static void out() {
    told("""
        SUM: the sum (or difference) of its PRODUCTS, OUT ones left out; OUT if all are
        marks 3 4 out out
        sum 'wc' -> OUT
        sum 'wc+wd' -> OUT
        sum 'wc-wd' -> OUT
        sum 'wa-wc' -> 3/1
        sum 'wc-wa' -> -3/1
        sum 'wc-wa-wd-wb' -> -7/1
        sum 'wc+0' -> 0/1
        """);
    told("""
        PRODUCT: OUT if a PART is
        marks 3 4 out out
        sum 'wc*wa' -> OUT
        sum 'wa*wc' -> OUT
        sum 'wa*wb*wc' -> OUT
        sum 'wc*wd' -> OUT
        sum '0*wc' -> OUT
        sum 'wc/9999' -> OUT
        sum '9999*9999*9999*wc' -> OUT
        sum 'wa*wb*wc+5' -> 5/1
        """);
    told("""
        all of those that are not OUT; OUT if all are
        marks 3 4 out out
        sum 'max(wc)' -> OUT
        sum 'max(wc,wa,wd)' -> 3/1
        sum 'min(wc,wd)' -> OUT
        sum 'min(wb,wc)' -> 4/1
        sum 'mean(wc,wd)' -> OUT
        sum 'mean(wa,wc,wb,wd)' -> 7/2
        sum 'best 0(wc)' -> OUT
        sum 'best 2(wc,wa,wd)' -> 3/1
        sum 'drop 9(wc,wd)' -> OUT
        sum 'drop 1(wc,wa,wb)' -> 4/1
        sum 'drop 1(wc,wa)' -> 0/1
        sum 'max(wc,wc,wc,wc,wc,wd,wd,wd,wd,wd)' -> OUT
        sum 'mean(wc,wc,wc,wc,wc,wd,wd,wd,wd,wa)' -> 3/1
        """);
    told("""
        cap, pass: OUT if SUM is
        marks 3 out
        sum 'cap(wb,0)' -> OUT
        sum 'pass(wb,0)' -> OUT
        sum 'cap(wb+wa,0)' -> 0/1
        """);
  }

  private static void lost() {
    told("""
        what a LOST part is in is LOST, ahead of all else
        marks 3 out
        sum '(9999*9999*9999)' -> LOST
        sum 'wb+9999*9999*9999' -> LOST
        sum '9999*9999*9999+wb' -> LOST
        sum 'wb-9999*9999*9999' -> LOST
        sum 'wb*(9999*9999*9999)' -> LOST
        sum '(9999*9999*9999)*wb' -> LOST
        sum '(9999*9999*9999)*0' -> LOST
        sum '(9999*9999*9999)/9999' -> LOST
        sum 'max(wa,9999*9999*9999)' -> LOST
        sum 'min(9999*9999*9999,wa)' -> LOST
        sum 'mean(wb,9999*9999*9999)' -> LOST
        sum 'best 0(9999*9999*9999)' -> LOST
        sum 'drop 9(wa,9999*9999*9999,wb)' -> LOST
        sum 'cap(9999*9999*9999,1)' -> LOST
        sum 'pass(9999*9999*9999,1)' -> LOST
        rules 'a=b;b=9999*9999*9999;' -> 2
        value 0 0 -> LOST
        """);
  }

  private static void lists() {
    told("""
        max, min: the greatest, least one
        marks 3 4 0
        sum 'max(wa)' -> 3/1
        sum 'max(wa,wb,wc)' -> 4/1
        sum 'max(0-1,0-2)' -> -1/1
        sum 'max(1,1)' -> 1/1
        sum 'min(wa)' -> 3/1
        sum 'min(wa,wb,wc)' -> 0/1
        sum 'min(0-1,0-2)' -> -2/1
        sum 'max(1,2,3,4,5,6,7,8,9,10)' -> 10/1
        sum 'min(10,9,8,7,6,5,4,3,2,1)' -> 1/1
        sum 'max(1/3,333/1000)' -> 1/3
        sum 'min(1/3,333/1000)' -> 333/1000
        """);
    told("""
        mean: the sum by how many
        marks 3 4 0
        sum 'mean(wa)' -> 3/1
        sum 'mean(wa,wb,wc)' -> 7/3
        sum 'mean(0)' -> 0/1
        sum 'mean(1,2,3,4,5,6,7,8,9,11)' -> 28/5
        """);
    told("""
        best k: the sum of the k greatest ones (best of fewer than k: of all)
        pupil
        sum 'best 0(3,1,2)' -> 0/1
        sum 'best 1(3,1,2)' -> 3/1
        sum 'best 2(3,1,2)' -> 5/1
        sum 'best 3(3,1,2)' -> 6/1
        sum 'best 4(3,1,2)' -> 6/1
        sum 'best 9999(3,1,2)' -> 6/1
        sum 'best 2(3,3,3)' -> 6/1
        sum 'best 1(0-2,0-1)' -> -1/1
        sum 'best 3(0-2,0-1)' -> -3/1
        sum 'best 9(1,2,3,4,5,6,7,8,9,10)' -> 54/1
        """);
    told("""
        drop k: the sum of all but the k least ones (drop of k or fewer: 0)
        pupil
        sum 'drop 0(3,1,2)' -> 6/1
        sum 'drop 1(3,1,2)' -> 5/1
        sum 'drop 2(3,1,2)' -> 3/1
        sum 'drop 3(3,1,2)' -> 0/1
        sum 'drop 4(3,1,2)' -> 0/1
        sum 'drop 9999(3,1,2)' -> 0/1
        sum 'drop 1(3,3,3)' -> 6/1
        sum 'drop 1(0-2,0-1)' -> -1/1
        sum 'drop 2(0-2,0-1)' -> 0/1
        sum 'drop 9(10,9,8,7,6,5,4,3,2,1)' -> 10/1
        """);
  }

  private static void listsOnTheWay() {
    told("""
        best, drop: both added from the greatest on, each sum on the way within bounds
        pupil
        sum 'best 3(0-1,1,1000*1000*1000)' -> LOST
        sum 'best 3(1000*1000*1000,0-1,0-5)' -> 999999994/1
        sum 'best 3(0-5,0-1,1000*1000*1000)' -> 999999994/1
        sum 'drop 1(0-9,0-1,1,1000*1000*1000)' -> LOST
        sum 'drop 1(0-9,0-5,0-1,1000*1000*1000)' -> 999999994/1
        sum 'drop 2(0-9,1,1000*1000*1000)' -> 1000000000/1
        sum 'best 1(1,1000*1000*1000)' -> 1000000000/1
        sum 'best 2(1,1000*1000*1000)' -> LOST
        """);
    told("""
        mean: from left to right, each sum on the way within bounds
        pupil
        sum 'mean(1000*1000*1000,1,0-1)' -> LOST
        sum 'mean(1000*1000*1000,0-1,1)' -> 1000000000/3
        sum 'mean(0-1,1,1000*1000*1000)' -> 1000000000/3
        sum 'mean(1/1000/1000/1000)' -> 1/1000000000
        sum 'mean(1/1000/1000/1000,0)' -> LOST
        sum 'mean(1/1000/1000/500,0)' -> 1/1000000000
        """);
    told("""
        max, min are none of several sums: nothing is on the way
        pupil
        sum 'max(1000*1000*1000,0-1000*1000*1000)' -> 1000000000/1
        sum 'min(1000*1000*1000,0-1000*1000*1000)' -> -1000000000/1
        sum 'max(1/71/2251/6257,1/1000/1000/1000)' -> 1/999999997
        sum 'min(1/71/2251/6257,1/1000/1000/1000)' -> 1/1000000000
        """);
  }

  private static void capPass() {
    told("""
        cap: the lesser of SUM and NUMBER
        pupil
        sum 'cap(4,5)' -> 4/1
        sum 'cap(5,5)' -> 5/1
        sum 'cap(6,5)' -> 5/1
        sum 'cap(5+1/9999,5)' -> 5/1
        sum 'cap(5-1/9999,5)' -> 49994/9999
        sum 'cap(0-1,0)' -> -1/1
        sum 'cap(1000*1000*1000,9999)' -> 9999/1
        """);
    told("""
        pass: 1 if SUM is NUMBER or more, else 0
        pupil
        sum 'pass(4,5)' -> 0/1
        sum 'pass(5,5)' -> 1/1
        sum 'pass(6,5)' -> 1/1
        sum 'pass(5-1/9999,5)' -> 0/1
        sum 'pass(5+1/9999,5)' -> 1/1
        sum 'pass(0,0)' -> 1/1
        sum 'pass(0-1/1000/1000/1000,0)' -> 0/1
        """);
  }

  private static void days() {
    told("""
        DAYS: how many 24 TICKS the hand-in came behind DUE and LEAVE, cut up (0 if it came by then)
        pupil
        work 0 10 10 1
        markOf 0 0 3 -> -9
        hand 0 0 -> 1
        markOf 0 0 3 -> 0
        tick 10 -> 10
        hand 0 0 -> 1
        markOf 0 0 3 -> 0
        tick 1 -> 11
        hand 0 0 -> 1
        markOf 0 0 3 -> 1
        tick 23 -> 34
        hand 0 0 -> 1
        markOf 0 0 3 -> 1
        tick 1 -> 35
        markOf 0 0 3 -> 1
        hand 0 0 -> 1
        markOf 0 0 3 -> 2
        leave 0 0 1 -> 0
        markOf 0 0 3 -> 1
        leave 0 0 24 -> 1
        markOf 0 0 3 -> 1
        leave 0 0 25 -> 24
        markOf 0 0 3 -> 0
        leave 0 0 1000 -> 25
        markOf 0 0 3 -> 0
        """);
    told("""
        DAYS of the latest TICK there is, behind the first DUE there is
        pupil
        work 0 10 0 1
        tick 100000
        hand 0 0
        markOf 0 0 3 -> 4167
        mark 0 0 10
        markOf 0 0 -> 0/1
        leave 0 0 1000
        markOf 0 0 3 -> 4125
        """);
  }

  private static void marks() {
    told("""
        v times (100 less LESS times DAYS) by 100, 0 at least
        pupil
        work 0 20 0 49
        work 0 20 0 50
        work 0 20 0 51
        work 0 20 0 100
        tick 48
        hand 0 0
        mark 0 0 20
        markOf 0 0 -> 2/5
        hand 0 1
        mark 0 1 20
        markOf 0 1 -> 0/1
        hand 0 2
        mark 0 2 20
        markOf 0 2 -> 0/1
        markOf 0 2 2 -> 1
        hand 0 3
        mark 0 3 20
        markOf 0 3 -> 0/1
        rules 'a=wc;b=min(wd,1)-1;' -> 2
        value 0 0 -> 0/1
        value 0 1 -> -1/1
        """);
    told("""
        SHOWN: the mean of the peers' marks v, lessened likewise, 0 at least
        2 x pupil
        work 3 20 0 51
        hand 0 0
        tick 24
        hand 1 0
        show 0 1 0 20 -> 1
        markOf 1 0 -> 49/5
        show 1 0 0 20 -> 1
        markOf 0 0 -> 20/1
        work 3 20 0 51
        tick 1
        hand 0 1
        hand 1 1
        show 0 1 1 20 -> 1
        markOf 1 1 -> 0/1
        rules 'a=wb;b=0-wb;' -> 2
        value 1 0 -> 0/1
        value 1 1 -> 0/1
        """);
    told("""
        0 at least: of 99, 100 and 101 DAYS, of a SHOWN one, too
        2 x pupil
        work 0 20 0 1
        work 3 20 0 1
        tick 2424
        hand 0 0
        mark 0 0 20
        hand 0 1
        hand 1 1
        show 1 0 1 20 -> 1
        markOf 0 1 3 -> 101
        markOf 0 0 -> 0/1
        markOf 0 1 -> 0/1
        leave 0 0 24
        leave 0 1 24
        markOf 0 1 3 -> 100
        markOf 0 0 -> 0/1
        markOf 0 1 -> 0/1
        leave 0 0 48
        leave 0 1 48
        markOf 0 1 3 -> 99
        markOf 0 0 -> 1/5
        markOf 0 1 -> 1/5
        """);
    told("""
        TRIED: the greatest of those of its tries
        pupil
        work 2 20 0 50
        hand 0 0
        mark 0 0 5
        markOf 0 0 -> 5/1
        tick 1
        hand 0 0
        mark 0 0 20
        markOf 0 0 -> 10/1
        tick 24
        hand 0 0
        mark 0 0 20
        markOf 0 0 -> 10/1
        markOf 0 0 3 -> 2
        """);
    told("""
        Not MARKED: 0 (it is OPEN-ENDED, if the WORK is not EXCUSED)
        pupil
        work 0 9 0 0
        work 1 9 0 0
        work 2 9 0 0
        work 3 9 0 0
        rules 'a=wa;b=wb;c=wc;d=wd;e=min(wa,wb,wc,wd,9);f=mean(wd,wa);' -> 6
        value 0 0 -> 0/1
        value 0 1 -> 0/1
        value 0 2 -> 0/1
        value 0 3 -> 0/1
        value 0 4 -> 0/1
        markOf 0 3 2 -> 2
        hand 0 3
        markOf 0 3 2 -> 2
        value 0 3 -> 0/1
        value 0 5 -> 0/1
        excuse 0 3 1 -> 1
        markOf 0 3 2 -> 0
        value 0 3 -> OUT
        """);
    told("""
        MARKED 0 is MARKED
        pupil
        work 0 9 0 0
        hand 0 0
        mark 0 0 0 -> 1
        markOf 0 0 2 -> 1
        mark 0 0 0 -> -3
        hand 0 0 -> -3
        """);
  }

  private static void opening() {
    told("""
        open if the VALUE of the RULE is a number, that or more
        marks 3 out -
        rules 'a=wa/2;b=wb;c=9999*9999*9999;d=0-wa;' -> 4
        need 2 0 1 -> 1
        opens 0 2 -> 1
        need 2 0 2 -> 1
        opens 0 2 -> 0
        hand 0 2 -> -3
        appeal 0 0 4 -> 3
        opens 0 2 -> 1
        hand 0 2 -> 1
        need 2 1 0 -> 1
        opens 0 2 -> 0
        need 2 2 0 -> 1
        opens 0 2 -> 0
        need 2 3 0 -> 1
        opens 0 2 -> 0
        appeal 0 0 0 -> 4
        opens 0 2 -> 1
        need 2 0 9999 -> 1
        opens 0 2 -> 0
        """);
    told("""
        all others are open
        pupil
        work 0 9 0 0
        opens 0 0 -> 1
        need 0 -1 9999 -> 1
        opens 0 0 -> 1
        hand 0 0 -> 1
        """);
  }

  private static void handing() {
    told("""
        SINGLE: again and again till MARKED, the latest counts
        pupil
        work 0 9 0 0
        500 x hand 0 0 -> 1
        markOf 0 0 4 -> 500
        tick 1
        hand 0 0 -> 1
        markOf 0 0 3 -> 1
        mark 0 0 9 -> 1
        hand 0 0 -> -3
        markOf 0 0 4 -> 501
        count 5 -> 501
        """);
    told("""
        GROUPED: likewise; of all PUPILS that are in the GROUP then
        6 x pupil
        work 1 9 0 0
        hand 3 0 -> 1
        group 0 3
        group 1 3
        group 2 3
        group 4 3
        group 5 3
        hand 0 0 -> 6
        hand 5 0 -> 6
        markOf 3 0 4 -> 3
        markOf 1 0 4 -> 2
        count 5 -> 13
        mark 1 0 9 -> 6
        hand 2 0 -> -3
        """);
    told("""
        each of whom must not be MARKED
        3 x pupil
        work 1 9 0 0
        hand 0 0 -> 1
        mark 0 0 0 -> 1
        group 1 0
        hand 1 0 -> -3
        group 1 2
        hand 1 0 -> 2
        mark 2 0 1 -> 2
        group 0 2
        hand 0 0 -> -3
        """);
    told("""
        Who hands in; others need not have it open
        2 x pupil
        work 0 9 0 0
        work 1 9 0 0
        group 1 0
        rules 'a=wa;' -> 1
        need 1 0 1
        hand 0 0
        mark 0 0 1
        hand 1 1 -> -3
        hand 0 1 -> 2
        markOf 1 1 4 -> 1
        """);
    told("""
        TRIED: three tries, each once the one ahead of it is MARKED
        pupil
        work 2 9 0 0
        hand 0 0 -> 1
        hand 0 0 -> -3
        mark 0 0 1 -> 1
        hand 0 0 -> 1
        hand 0 0 -> -3
        mark 0 0 1 -> 1
        hand 0 0 -> 1
        hand 0 0 -> -3
        mark 0 0 1 -> 1
        hand 0 0 -> -3
        markOf 0 0 4 -> 3
        count 5 -> 3
        count 6 -> 3
        """);
    told("""
        SHOWN: once
        2 x pupil
        work 3 9 0 0
        hand 0 0 -> 1
        hand 0 0 -> -3
        hand 1 0 -> 1
        show 1 0 0 1 -> 1
        hand 0 0 -> -3
        markOf 0 0 4 -> 1
        """);
  }

  private static void marking() {
    told("""
        SINGLE, GROUPED, TRIED: of the latest hand-in, which is not MARKED
        pupil
        work 0 9 0 0
        work 1 9 0 0
        work 2 9 0 0
        mark 0 0 1 -> -3
        mark 0 1 1 -> -3
        mark 0 2 1 -> -3
        hand 0 0
        hand 0 1
        hand 0 2
        mark 0 0 1 -> 1
        mark 0 1 1 -> 1
        mark 0 2 1 -> 1
        mark 0 0 1 -> -3
        mark 0 1 1 -> -3
        mark 0 2 1 -> -3
        hand 0 2 -> 1
        mark 0 2 2 -> 1
        markOf 0 2 -> 2/1
        """);
    told("""
        of GROUPED for all who had it handed in at that TICK by the same PUPIL
        4 x pupil
        work 1 9 0 0
        group 1 0
        group 2 0
        hand 0 0 -> 3
        group 2 3
        tick 1
        hand 3 0 -> 2
        mark 1 0 5 -> 2
        markOf 2 0 2 -> 2
        mark 3 0 6 -> 2
        markOf 0 0 -> 5/1
        markOf 2 0 -> 6/1
        """);
    told("""
        and are not MARKED
        3 x pupil
        work 1 9 0 0
        group 1 0
        hand 0 0 -> 2
        group 0 2
        hand 2 0 -> 2
        mark 1 0 4 -> 1
        hand 0 0 -> 2
        mark 2 0 9 -> 2
        markOf 1 0 -> 4/1
        markOf 0 0 -> 9/1
        count 6 -> 3
        """);
    told("""
        (Leaving a GROUP later changes nothing.)
        3 x pupil
        work 1 9 0 0
        group 1 0
        hand 1 0 -> 2
        group 0 5
        group 1 4
        group 2 0
        mark 0 0 3 -> 2
        markOf 1 0 -> 3/1
        markOf 2 0 2 -> 2
        """);
  }

  private static void peers() {
    told("""
        PEERS: of those others that handed it in too the next two by numbers, going on around
        6 x pupil
        work 3 9 0 0
        hand 5 0
        peer 5 0 0 -> -9
        hand 4 0
        peer 5 0 0 -> 4
        peer 5 0 1 -> -9
        peer 4 0 0 -> 5
        peer 4 0 1 -> -9
        hand 3 0
        peer 5 0 0 -> 3
        peer 5 0 1 -> 4
        peer 4 0 0 -> 5
        peer 4 0 1 -> 3
        hand 0 0
        hand 1 0
        hand 2 0
        peer 5 0 0 -> 0
        peer 5 0 1 -> 1
        peer 4 0 0 -> 5
        peer 4 0 1 -> 0
        peer 0 0 0 -> 1
        peer 0 0 1 -> 2
        peer 0 0 2 -> -9
        peer 0 0 -1 -> -9
        """);
    told("""
        as they are now; each marks once
        6 x pupil
        work 3 9 0 0
        hand 0 0
        show 0 0 0 9 -> -3
        hand 5 0
        show 5 0 0 9 -> 1
        show 5 0 0 9 -> -3
        hand 4 0
        show 4 0 0 8 -> 2
        hand 3 0
        hand 2 0
        show 4 0 0 7 -> -3
        show 3 0 0 7 -> 3
        hand 1 0
        show 3 0 0 7 -> -3
        show 2 0 0 6 -> 4
        show 1 0 0 0 -> 5
        markOf 0 0 -> 6/1
        count 6 -> 5
        """);
  }

  private static void appeals() {
    told("""
        APPEAL: v of the latest hand-in that is MARKED becomes another one (of that PUPIL alone)
        2 x pupil
        work 2 9 0 0
        work 1 9 0 0
        group 1 0
        hand 0 0
        appeal 0 0 1 -> -3
        mark 0 0 5
        hand 0 0
        appeal 0 0 1 -> 5
        markOf 0 0 -> 1/1
        mark 0 0 0
        appeal 0 0 9 -> 0
        hand 0 0
        mark 0 0 3
        appeal 0 0 0 -> 3
        markOf 0 0 -> 9/1
        hand 0 1
        mark 0 1 4 -> 2
        appeal 1 1 0 -> 4
        markOf 0 1 -> 4/1
        markOf 1 1 -> 0/1
        markOf 1 1 2 -> 1
        400 x appeal 1 1 0 -> 0
        count 7 -> 404
        """);
  }

  private static void ranges() {
    told("""
        over all marks from 0 to MOST of all OPEN-ENDED WORKS, as if MARKED without DAYS
        pupil
        work 0 1 0 100
        work 0 20 0 100
        work 0 20 0 0
        rules 'a=wa;b=wb;c=wa+wb;d=7;e=wc;' -> 5
        tick 100
        range 0 0 -> 0/1 .. 1/1
        range 0 1 -> 0/1 .. 20/1
        range 0 2 -> 0/1 .. 21/1
        range 0 2 4 -> 2
        range 0 3 -> 7/1 .. 7/1
        range 0 3 4 -> 0
        hand 0 1
        range 0 1 -> 0/1 .. 20/1
        mark 0 1 20
        range 0 1 -> 0/1 .. 0/1
        range 0 2 -> 0/1 .. 1/1
        range 0 2 4 -> 1
        excuse 0 0 1
        range 0 2 -> 0/1 .. 0/1
        range 0 0 0 -> 2000000003
        range 0 0 4 -> 0
        """);
    told("""
        the least and greatest VALUE (of those that are numbers)
        marks - out
        rules 'a=1000*1000*100*wa;b=9999*9999*9999*(wa+1);c=wb;d=(wa+1)/1000/1000/1000/21;' -> 4
        range 0 0 -> 0/1 .. 0/1
        range 0 1 0 -> 2000000003
        range 0 2 0 -> 2000000003
        range 0 3 -> 1/1000000000 .. 1/1000000000
        range 0 1 4 -> 1
        range 0 2 4 -> 0
        """);
    told("""
        Without - in the TEXT: of all 0, and of all MOST, alone, of any many WORKS
        marks - - - - - - - - - -
        rules 'a=wa+wb+wc+wd+we+wf+wg+wh+wi+wj;b=pass(wa,1)*cap(wa,5);' -> 2
        range 0 0 -> 0/1 .. 200/1
        range 0 0 4 -> 10
        range 0 1 -> 0/1 .. 5/1
        """);
  }

  private static void rangesWithMinus() {
    told("""
        With -: of at most 3 WORKS on which the RULE hangs; more: refused
        pupil
        work 0 20 0 0
        work 0 20 0 0
        work 0 1 0 0
        work 0 1 0 0
        rules 'a=wa*(20-wa)+wb*(20-wb)-wc;b=a-wd;c=3-5;' -> 3
        range 0 0 4 -> 3
        range 0 0 -> -1/1 .. 200/1
        range 0 1 4 -> 4
        range 0 1 0 -> 2000000003
        range 0 1 3 -> 2000000003
        range 0 2 4 -> 0
        range 0 2 -> -2/1 .. -2/1
        excuse 0 3 1
        range 0 1 4 -> 3
        range 0 1 -> -1/1 .. 200/1
        excuse 0 3 0
        hand 0 2
        mark 0 2 1
        range 0 1 4 -> 3
        range 0 1 -> -2/1 .. 199/1
        """);
    told("""
        With -: each mark from 0 to MOST is one of all
        marks -
        rules 'a=(wa-0)*(wa-0);b=(wa-10)*(wa-10);c=(wa-20)*(wa-20);d=wa*(20-wa);' -> 4
        range 0 0 -> 0/1 .. 400/1
        range 0 1 -> 0/1 .. 100/1
        range 0 2 -> 0/1 .. 400/1
        range 0 3 -> 0/1 .. 100/1
        """);
  }
}
