/** Promise 4: fault, of each sort. */
public final class FaultTest {
    private static void fault(int sort, String text, int want) {
        Kit.due("fault(" + sort + ") of \"" + text + "\"", Kit.fault(new NearlyBought(), sort, text), want);
        Kit.due("the same another way: \"" + text + "\"", Recognizer.fault(sort, text), want);
    }

    private static void cities() {
        fault(0, "", 0);
        fault(0, "t;b", -1);
        fault(0, "b;t", -1);
        fault(0, "b;s;t", -1);
        fault(0, "t", 1);
        fault(0, "t  ", 3);
        fault(0, "s;t", 3);
        fault(0, "t;b;", 4);
        fault(0, "t;;b", 2);
        fault(0, ";t;b", 0);
        fault(0, "s;s;t;b", 2);
        fault(0, "s;t;b ; s", 8);
        fault(0, "sr8;t;b", -1);
        fault(0, "sr9;t;b", 2);
        fault(0, "sr08;t;b", -1);
        fault(0, "sr09;t;b", 3);
        fault(0, "sr99;t;b", 3);
        fault(0, "sr100;t;b", 4);
        fault(0, "sr008;t;b", 4);
        fault(0, "sr0h0i0;tw0s0;bm0d0n0k0", -1);
        fault(0, "sh9;t;b", -1);
        fault(0, "sh10;t;b", 3);
        fault(0, "sy1;t;b", 2);
        fault(0, "sy01;t;b", 3);
        fault(0, "sy2;t;b", -1);
        fault(0, "sy30;t;b", -1);
        fault(0, "sy31;t;b", 3);
        fault(0, "sy310;t;b", 4);
        fault(0, "si30;t;b", -1);
        fault(0, "si31;t;b", 3);
        fault(0, "tp0;b", 2);
        fault(0, "tp00;b", 3);
        fault(0, "tp01;b", -1);
        fault(0, "tp0", 2);
        fault(0, "tp", 2);
        fault(0, "tp;b", 2);
        fault(0, "tp99;b", -1);
        fault(0, "tp100;b", 4);
        fault(0, "tp1 0;b", 4);
        fault(0, "tp 10 ;b", -1);
        fault(0, "tw9s3;b", -1);
        fault(0, "tw10;b", 3);
        fault(0, "ts4;b", 2);
        fault(0, "tr1;b", 1);
        fault(0, "tp1w2p3;b", 5);
        fault(0, "t;bm99d9n9k2", -1);
        fault(0, "t;bm100", 6);
        fault(0, "t;bk3", 4);
        fault(0, "t;bd10", 5);
        fault(0, "t;bp1", 3);
        fault(0, "t;bM1", 3);
        fault(0, "t;t;t;t;t;t;t;t;b", -1);
        fault(0, "t;t;t;t;t;t;t;t;t", 16);
        fault(0, "b;b;b;b;b;b;t", -1);
        fault(0, "b;b;b;b;b;b;b", 12);
        fault(0, "s;t;t;t;t;t;t;t;t;b;b;b;b;b;b", -1);
        fault(0, "s;t;t;t;t;t;t;t;t;b;b;b;b;b;b;", 30);
        fault(0, "s;t;t;t;t;t;t;t;t;b;b;b;b;b;b; s", 31);
    }

    private static void laws() {
        fault(1, "", 0);
        fault(1, "y:1", -1);
        fault(1, " y : 1 ", -1);
        fault(1, "y", 1);
        fault(1, "y:", 2);
        fault(1, "y1", 1);
        fault(1, "x:1", 0);
        fault(1, "y:9999", -1);
        fault(1, "y:0000", -1);
        fault(1, "y:00000", 6);
        fault(1, "y:1 2", 4);
        fault(1, "y:q", 2);
        fault(1, "y:-1", 2);
        fault(1, "y:1+", 4);
        fault(1, "y:1+*2", 4);
        fault(1, "y:p+w-d*m/s+h", -1);
        fault(1, "y:pw", 3);
        fault(1, "y:[1+2]*3", -1);
        fault(1, "y:[1+2", 6);
        fault(1, "y:[1>2]", 4);
        fault(1, "y:[]", 3);
        fault(1, "y:1]", 3);
        fault(1, "y:p>1?2", -1);
        fault(1, "y:p>1", 5);
        fault(1, "y:p>1;y:1", 5);
        fault(1, "y:1?2", 3);
        fault(1, "y:p>1?2?3", 7);
        fault(1, "y:p>1?2>1?3", 7);
        fault(1, "y:p>1>2?3", 5);
        fault(1, "y:(p>1)?2", -1);
        fault(1, "y:(p)?2", 4);
        fault(1, "y:(p>1", 6);
        fault(1, "y:(p>1)", 7);
        fault(1, "y:(p>1)+1?2", 7);
        fault(1, "y:!p>1?2", -1);
        fault(1, "y:!p?2", 4);
        fault(1, "y:!", 3);
        fault(1, "y:p>1&w<2|d=3?4", -1);
        fault(1, "y:p>1&w?4", 7);
        fault(1, "y:p>1&&w>1?4", 6);
        fault(1, "y:p>1&(w>1|!d=3)?4", -1);
        fault(1, "y:1;", 4);
        fault(1, "y:1;y:2", -1);
        fault(1, "y:1;2", 4);
        fault(1, "y:[[[[[[1]]]]]]", -1);
        fault(1, "y:[[[[[[[1]]]]]]]", 8);
        fault(1, "y:((((((p>1))))))?1", -1);
        fault(1, "y:(((((((p>1)))))))?1", 8);
        fault(1, "y:!!!!!!p>1?1", -1);
        fault(1, "y:!!!!!!p>[1]?1", 10);
        fault(1, "y:1>[[[[[[1]]]]]]?1", -1);
        fault(1, "y:1>1&[[[[[[1]]]]]]>1|((((((1>1))))))?1", -1);
        fault(1, "y:1>1|((((((1>1&[1]>1))))))?1", 16);
        fault(1, "y:!(!([[p]]>1))?[[[[[[1]]]]]]", -1);
        fault(1, "y:!(!([[[p]]]>1))?1", 8);
        fault(1, "y:[p]+[p]+[p]+[p]+[p]+[p]+[p]+[p]", -1);
    }

    private static void days() {
        fault(2, "", 0);
        fault(2, "h", -1);
        fault(2, " h ; h ", -1);
        fault(2, "p 0 1;b0;g 1  2;y9;h", -1);
        fault(2, "p99;g88;b9", -1);
        fault(2, "p", 1);
        fault(2, "p0;", 2);
        fault(2, "p0 ", 3);
        fault(2, "p012", 3);
        fault(2, "b", 1);
        fault(2, "b01", 2);
        fault(2, "g1", 2);
        fault(2, "y;", 1);
        fault(2, "h0", 1);
        fault(2, "h;", 2);
        fault(2, "h;;h", 2);
        fault(2, "z", 0);
        fault(2, "hh", 1);
        fault(2, "h;h;h;h;h;h;h;h;h;h;h;h;h;h;h;h", -1);
        fault(2, "h;h;h;h;h;h;h;h;h;h;h;h;h;h;h;h;h", 31);
        fault(2, "h;h;h;h;h;h;h;h;h;h;h;h;h;h;h;h ; ", 32);
        fault(2, "h;h;h;h;h;h;h;h;h;h;h;h;h;h;h;hh", 31);
    }

    public static void main(String[] args) {
        cities();
        laws();
        days();
        Kit.due("fault(3)", new NearlyBought().fault(3), -2);
        Kit.due("fault(-1)", new NearlyBought().fault(-1), -2);
        Kit.end();
    }
}
