/** The boundaries of promise 1: a new object has no CODE, and no names are stored. */
public final class Promise01NewObjectTest {
    public static void main(String[] args) throws ReflectiveOperationException {
        Cases.of(Promise01NewObjectTest.class);
    }

    static void promise1_noCode_about(Check check) {
        check.due("about", new Host().about(), "0 0 0 0 0 -1 0 0");
    }

    static void promise1_noCode_again(Check check) {
        Host host = new Host();
        check.due("again()", host.x.again(), false);
        check.due("about behind it", host.about(), "0 0 0 0 0 -1 0 0");
    }

    static void promise1_noCode_run(Check check) {
        Host host = new Host();
        for (int n : new int[] {1, 2, 199, 200}) {
            check.due("run(" + n + ")", host.run(n), "IllegalStateException");
        }
        check.due("about behind it", host.about(), "0 0 0 0 0 -1 0 0");
    }

    static void promise1_noCode_rows(Check check) {
        Host host = new Host();
        for (int k : new int[] {-1, 0, 1, 299, 300}) {
            check.due("result(" + k + ")", host.x.result(k), -1);
            check.due("stack(0, " + k + ")", host.x.stack(0, k), -1);
            check.due("local(0, " + k + ")", host.x.local(0, k), -1);
        }
    }

    static void promise1_noNamesStored(Check check) {
        Host host = new Host();
        check.due("names stored", host.x.about(7), 0);
        for (String name : new String[] {"", "a", "range", "typ", "zero", "index", "value", "name",
                "deep", "over", "zzzzzzzz"}) {
            check.due("global of " + name, host.global(name), "nothing");
        }
    }

    static void promise1_noNamesStored_asLongAsNothingStores(Check check) {
        Host host = Host.of(new Asm(0, 0, 1).load(1).put("a").load(2).op(Asm.RETURN));
        check.due("names when the CODE is read", host.x.about(7), 0);
        host.run(1);
        check.due("names before STORE", host.x.about(7), 0);
        host.run(1);
        check.due("names behind STORE", host.x.about(7), 1);
        check.due("names of another new one", new Host().x.about(7), 0);
        check.due("the name in another new one", new Host().global("a"), "nothing");
    }

    static void promise1_noFault(Check check) {
        check.due("fault()", new Host().x.fault(), -1);
    }

    static void promise1_emptyTape(Check check) {
        check.due("feed's length", new Host().x.feed(99, 1), 1);
        check.due("read at once", new Host().read(), "IllegalArgumentException 0");
    }

    static void promise1_otherObjectsAreNotSeen(Check check) {
        Host other = new Host();
        other.ending(Samples.returns(7));
        other.feedAll(1, 2, 3);
        Host host = new Host();
        check.due("about", host.about(), "0 0 0 0 0 -1 0 0");
        check.due("result", host.result(), "nothing");
        check.due("feed's length", host.x.feed(1, 1), 1);
    }
}
